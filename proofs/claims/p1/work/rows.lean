section
/-! a throw that a row of the method's own table takes; rows ahead of it may be passed; the links of the rows cold or warm -/
section VYA
variable {p : Program} {l : Launch} {e : Env} {R : Room} {s : State} {m : MethodId} {args : Array Value} {below : List Frame} {meth : Method} {c : Code} {T : State} {locs : List Loc} {cells slots : Nat}
/-- a row of a table that lets an object of the kind k pass -/
def vy_Pass (e : Env) (s : State) (d : ClassId) (pc : Nat) (k : ClassId) (z : ExceptionTableEntry) : Prop := covers z pc = false ∨ (z.catchType ≠ 0 ∧ ∃ t, s.vm.ClassLinks e.platform d z.catchType t ∧ s.vm.assignable k t = false)
/-- a row that takes it -/
def vy_Take (e : Env) (s : State) (d : ClassId) (k : ClassId) (z : ExceptionTableEntry) : Prop := z.catchType = 0 ∨ (z.catchType ≠ 0 ∧ ∃ t, s.vm.ClassLinks e.platform d z.catchType t ∧ s.vm.assignable k t = true)
/-- one row that covers the place and names a kind: taken or passed, the row's link noted -/
theorem vy_row {Q : Handler → Pre} {E : CtlPost} {d : Bool} {acts : List Action} {S : State} {f : JFrame} {a : Addr} {x : ExceptionTableEntry} {t : List ExceptionTableEntry} {ct : ClassId} {cell : Cell} (b : Bool)
    (hx : covers x f.pc = true) (h0 : x.catchType ≠ 0) (hl : S.vm.ClassLinks e.platform f.method.cls x.catchType ct) (hcell : S.heap[a]? = some cell) (hobj : ∀ k, cell.vm ≠ .statics k)
    (hk : ∃ k, S.vm.classes[cell.cls]? = some k) (hc : ∃ k, S.vm.classes[ct]? = some k) (hb : S.vm.assignable cell.cls ct = b) :
    wp (findHandler.go f a (x :: t)) Q E e d acts S ↔ (if b = true then Q (.found x.handlerPc) d acts (S.setVm (S.vm.noted f.method.cls x.catchType (.cls ct))) else wp (findHandler.go f a t) Q E e d acts (S.setVm (S.vm.noted f.method.cls x.catchType (.cls ct)))) := by
  simp only [covers] at hx
  obtain ⟨ha, ht⟩ := (resolveClass_links e.toSetting hl).op (op := VmOp.resolveClass f.method.cls x.catchType) rfl
  have hal : S.vm.Alike (S.vm.noted f.method.cls x.catchType (.cls ct)) := (Vm.Alike.refl S.vm).noted _ _ _
  obtain ⟨k1, hk1⟩ := hk
  obtain ⟨k2, hk2⟩ := hc
  obtain ⟨k3, hk3, -⟩ := hal.2.2 _ _ hk1
  obtain ⟨k4, hk4, -⟩ := hal.2.2 _ _ hk2
  have hb' : (S.vm.noted f.method.cls x.catchType (.cls ct)).assignable cell.cls ct = b := by rw [hal.assignable]; exact hb
  cases b <;> simp [findHandler.go, hx, h0, ha, ht, hcell, hobj, hk3, hk4, hb', VmOp.dirties, VmOp.acts]
/-- the search comes to the row x -/
theorem vy_search {f : JFrame} {a : Addr} {cell : Cell} (hobj : ∀ k, cell.vm ≠ .statics k) (hk0 : ∃ k, s.vm.classes[cell.cls]? = some k) (x : ExceptionTableEntry) (suf : List ExceptionTableEntry) (hx : covers x f.pc = true)
    (hend : vy_Take e s f.method.cls cell.cls x) : ∀ (pre : List ExceptionTableEntry) (S : State), s.WarmedH S.vm → S.heap[a]? = some cell → (∀ z ∈ pre, vy_Pass e s f.method.cls f.pc cell.cls z) →
      ∃ v, s.WarmedH v ∧ ∀ (Q : Handler → Pre) (E : CtlPost) (d : Bool) (acts : List Action), wp (findHandler.go f a (pre ++ x :: suf)) Q E e d acts S ↔ Q (.found x.handlerPc) d acts (S.setVm v) := by
  obtain ⟨k0, hk0⟩ := hk0
  intro pre
  induction pre with
  | nil =>
    intro S hW hcell _
    rcases hend with h0 | ⟨h0, ct, hl, hfit⟩
    · exact ⟨S.vm, hW, fun Q E d acts => by rw [List.nil_append, W.findHandler_go_any hx h0, State.setVm_self]⟩
    · obtain ⟨k1, hk1, -⟩ := hW.alike.2.2 _ _ hk0
      obtain ⟨dk, _, _, kt, hd, _, _, _, _, hkt, _, hopen⟩ := hl.here
      obtain ⟨k2, hk2, -⟩ := hW.alike.2.2 _ _ hkt
      refine ⟨_, hW.noted hd hopen (State.rightAt_cls hl), fun Q E d acts => ?_⟩
      rw [List.nil_append, vy_row true hx h0 (hW.classLinks hl) hcell hobj ⟨k1, hk1⟩ ⟨k2, hk2⟩ (by rw [hW.alike.assignable]; exact hfit), if_pos rfl]
  | cons z zs ih =>
    intro S hW hcell hp
    have hzs : ∀ y ∈ zs, vy_Pass e s f.method.cls f.pc cell.cls y := fun y hy => hp y (List.mem_cons_of_mem _ hy)
    by_cases hcov : covers z f.pc = true
    · rcases hp z List.mem_cons_self with h | ⟨h0, ct, hl, hno⟩
      · rw [h] at hcov; cases hcov
      · obtain ⟨k1, hk1, -⟩ := hW.alike.2.2 _ _ hk0
        obtain ⟨dk, _, _, kt, hd, _, _, _, _, hkt, _, hopen⟩ := hl.here
        obtain ⟨k2, hk2, -⟩ := hW.alike.2.2 _ _ hkt
        obtain ⟨v, hv, hq⟩ := ih (S.setVm (S.vm.noted f.method.cls z.catchType (.cls ct))) (hW.noted hd hopen (State.rightAt_cls hl)) hcell hzs
        refine ⟨v, hv, fun Q E d acts => ?_⟩
        rw [List.cons_append, vy_row false hcov h0 (hW.classLinks hl) hcell hobj ⟨k1, hk1⟩ ⟨k2, hk2⟩ (by rw [hW.alike.assignable]; exact hno), if_neg (by decide)]
        exact hq Q E d acts
    · obtain ⟨v, hv, hq⟩ := ih S hW hcell hzs
      refine ⟨v, hv, fun Q E d acts => ?_⟩
      rw [List.cons_append, W.findHandler_go_skip (by simpa using hcov)]
      exact hq Q E d acts
/-- from the note over the frame to the handler -/
theorem vy_caught (X : Stand p l e R s m args below meth c T locs cells slots) (q : Addr) {g : JFrame} (hg : g.method = m) {cell : Cell} (hcell : T.heap[q]? = some cell) (hobj : cell.vm.isStatics = false) (hk0 : ∃ k, s.vm.classes[cell.cls]? = some k)
    (pre : List ExceptionTableEntry) (x : ExceptionTableEntry) (suf : List ExceptionTableEntry) (hsplit : c.exceptionTable.toList = pre ++ x :: suf)
    (hpass : ∀ z ∈ pre, vy_Pass e s m.cls g.pc cell.cls z) (hx : covers x g.pc = true) (hend : vy_Take e s m.cls cell.cls x) :
    ∃ v, Stand p l e R s m args below meth c (T.setVm v) locs cells slots ∧ Steps p.tables e below ((T.setTop g).pushFrame (.throwing q)) ((T.setVm v).setTop { g with pc := x.handlerPc, stack := [.ref q] }) := by
  subst hg
  obtain ⟨v, hv, hq⟩ := vy_search (e := e) (s := s) (f := g) (a := q) (VmData.ne_statics_of hobj) hk0 x suf hx hend pre ((T.setTop g).pushFrame (.throwing q)) X.warmed hcell hpass
  refine ⟨v, X.noted hv, ?_⟩
  obtain ⟨hgo, hw⟩ := X.here.throwing (g := g) q
  refine Steps.head hgo hw ?_
  have hstep : (stepThrowing e ((T.setTop g).pushFrame (.throwing q)) q (.java g :: T.frames.tail)).1 = (((T.setTop g).pushFrame (.throwing q)).setVm v).setFrames (.java { g with pc := x.handlerPc, stack := [.ref q] } :: T.frames.tail) := by
    simp only [stepThrowing, searchFrame, vmDo]
    generalize hr : Sem.go _ e false [] ((T.setTop g).pushFrame (.throwing q)) = res
    obtain ⟨as, rfl, ha⟩ := Sem.eq_ok_of hr (a := Handler.found x.handlerPc) (s' := ((T.setTop g).pushFrame (.throwing q)).setVm v) (acts' := []) (by
      have h9 := fun (Q : Handler → Pre) (E : CtlPost) (d : Bool) (acts : List Action) => (W.findHandler_eq (Q := Q) (E := E) (e := e) (d := d) (acts := acts) (a := q) (s := (T.setTop g).pushFrame (.throwing q)) (f := g) (meth := meth) (code := c) X.method' X.code)
      simp [h9, hsplit, hq])
    rfl
  rw [stepThread_throwing (frames_entered X.here.top _), hstep]
  obtain ⟨g₀, h0⟩ := Option.isSome_iff_exists.mp X.here.top
  obtain ⟨r, hr⟩ := State.topJava?_eq_some.mp h0
  have hr' : (T.setVm v).frames = .java g₀ :: r := hr
  have e1 : (((T.setTop g).pushFrame (.throwing q)).setVm v).setFrames (.java { g with pc := x.handlerPc, stack := [.ref q] } :: T.frames.tail) = (T.setVm v).setTop { g with pc := x.handlerPc, stack := [.ref q] } := by
    have c1 : ∀ (u : State) (F G : List Frame), ((u.setFrames F).setVm v).setFrames G = (u.setVm v).setFrames G := fun u F G => by
      rw [show (u.setFrames F).setVm v = (u.setVm v).setFrames F from rfl, State.setFrames_setFrames]
    rw [State.setTop_of_frames _ hr', hr, List.tail_cons, State.pushFrame, State.setTop_of_frames _ hr, c1, c1]
  rw [e1]
  exact Steps.refl _
end VYA
end
section
/-! ===== BEGIN exceptions that leave a method, and their catching by the caller (launches without stack traces) ===== -/
section VXA
/-! The laws vx_back, vx_callV, vx_callS, vx_callSW, vx_throw0, vx_throwS follow proofs of the library, with one case more: JvmDerived/Free/Laws.lean (Back.of_free), Shelf42/LK1.lean (callV, callS), Shelf/KitTraced.lean (throwNew0V, throwNewS). -/
/-- where a method has thrown q: the class by its name, the cell, what was written, the world -/
def vx_T (XC : String → Addr → State → State → Prop) (st : State) (q : Addr) (t : State) (mc ms : Nat) (free : Addr → Prop) : Prop :=
  ∃ (E : String) (ce : Cell) (L : List Loc), XC E q st t ∧ t.heap[q]? = some ce ∧ ce.vm = .none ∧ st.vm.findClass E = some ce.cls ∧ st.WarmedH t.vm ∧ st.sameButNew ({ t with vm := st.vm } : State) L mc ms ∧ ∀ z ∈ L, free z.base
def vx_Q (Qc : Array Value → State → Outcome → State → Prop) (XC : String → Addr → State → State → Prop) (mc ms : Nat) (free : Addr → Prop) : Array Value → State → Outcome → State → Prop := fun a st o t =>
  (Qc a st o t ∧ ∃ L, FrameEnd st o t L mc ms ∧ ∀ q ∈ L, free q.base) ∨ ∃ q, o = .threw q ∧ vx_T XC st q t mc ms free
/-- a callee that returns or throws -/
def vx_Met (l : Launch) (y : MethodName) (ws : List Cond) (rm : Room) (Pc : Array Value → State → Prop) (Qc : Array Value → State → Outcome → State → Prop) (XC : String → Addr → State → State → Prop) (mc ms : Nat) (free : Addr → Prop) : Prop :=
  MetFree l y (headSpec ws rm) Pc (fun _ _ _ _ _ => True) (vx_Q Qc XC mc ms free)
def vx_Post (XC : String → Addr → State → State → Prop) (mc ms : Nat) (free : Addr → Prop) : Pt → Array Value → Addr → Pt → Prop := fun A a q B =>
  ∃ (g : JFrame) (mk : MethodId) (t : State) (L : List Loc) (E : String) (ce : Cell), B.U.heap = t.heap ∧ B.U.vm = t.vm ∧ XC E q (A.U.calling g mk a) t ∧ t.heap[q]? = some ce ∧ ce.vm = .none ∧ A.U.vm.findClass E = some ce.cls ∧ B.locs = A.locs ++ L ∧ (∀ z ∈ L, free z.base) ∧ B.cells = A.cells + mc ∧ B.slots = A.slots + ms
def vx_Back (l : Launch) (R : Room) (p : Program) (e : Env) (below : List Frame) (s : State) (sargs : Array Value) (y : MethodName) (len W9 : Nat)
    (Pre : Pt → Array Value → Prop) (Post : Pt → Array Value → Option Value → Pt → Prop) (PostX : Pt → Array Value → Addr → Pt → Prop) : Prop :=
  ∀ (m : MethodId) (meth : Method) (c : Code) (A : Pt) (g : JFrame) (ig : Instr) (mk : MethodId) (a : Array Value),
    Stand p l e R s m sargs below meth c A.U A.locs A.cells A.slots → g.method = m → g.locals.size = c.maxLocals → decode c.code g.pc = .ok (ig, len) →
    2 * g.monitorRoom + (g.stack.map fun v => v.category).sum ≤ W9 → A.U.methodNamed? y = some mk → Pre A a →
    (∃ (v : Option Value) (B : Pt), Stand p l e R s m sargs below meth c B.U B.locs B.cells B.slots ∧ Post A a v B ∧
      Steps p.tables e below (doInvoke e (A.U.setTop g) [] mk a).1 (B.U.setTop { g with pc := g.pc + len, stack := v.toList ++ g.stack })) ∨
    (∃ (q : Addr) (B : Pt), Stand p l e R s m sargs below meth c B.U B.locs B.cells B.slots ∧ PostX A a q B ∧
      Steps p.tables e below (doInvoke e (A.U.setTop g) [] mk a).1 ((B.U.setTop g).pushFrame (.throwing q)))
section Payer
variable {l : Launch} {R : Room} {p : Program} {e : Env} {below : List Frame} {s : State} {sargs : Array Value} {y : MethodName} {len W9 : Nat}
theorem vx_back {ws : List Cond} {rm : Room} {Pc : Array Value → State → Prop} {Qc : Array Value → State → Outcome → State → Prop} {XC : String → Addr → State → State → Prop} {mc ms : Nat} {free : Addr → Prop} {bytes : ByteArray} {maxL : Nat} {ret : Option FieldType}
    (hM : vx_Met l y ws rm Pc Qc XC mc ms free) (hblind : FrameBlind Pc) (hrc : rm.cells = mc) (hrs : rm.slots = ms)
    (hframes : rm.frames + 1 ≤ R.frames) (hlocals : W9 + (maxL + 11) + rm.locals ≤ R.locals)
    (hws : ∀ w ∈ ws, ∀ a' U, s.WarmedH U.vm → w.before a' U = true) (hcode : Cond.code y bytes maxL ret ∈ ws) (hinit : ∀ a' U, s.WarmedH U.vm → (Cond.initialized y.cls).before a' U = true) :
    vx_Back l R p e below s sargs y len W9 (PreOf R mc ms Pc) (PostOf Qc mc ms free) (vx_Post XC mc ms free) := by
  intro m meth c A g ig mk a X hg hsize hdg hW hn hp
  have h1 : (headSpec ws rm).pre.before a A.U = true := atoms_intro fun w hw => hws w hw _ _ X.warmed
  have h2 : (Cond.code y bytes maxL ret).before a A.U = true := hws _ hcode _ _ X.warmed
  have h3 : (Cond.initialized y.cls).before a A.U = true := hinit _ _ X.warmed
  have h4 : A.cells + (headSpec ws rm).room.cells ≤ R.cells := by rw [show (headSpec ws rm).room.cells = mc from hrc]; exact hp.1
  have h5 : A.slots + (headSpec ws rm).room.slots ≤ R.slots := by rw [show (headSpec ws rm).room.slots = ms from hrs]; exact hp.2.1
  have hPc : Pc a (A.U.calling g mk a) := hblind _ _ _ _ hp.2.2
  obtain ⟨U, Ls, c0, s0⟩ := A
  dsimp only [Pt.U, Pt.locs, Pt.cells, Pt.slots] at h1 h2 h3 h4 h5 X hn hPc ⊢
  obtain ⟨methY, cY, hmY, hcY, -, hlY, -, -, -, -⟩ := Cond.code_spec hn h2
  obtain ⟨kY, hkY, -⟩ := className_of_methodNamed hn
  have hinitY : kY.init = .initialized := Cond.initialized_spec (findClass_of_methodNamed hn) hkY h3
  have h : At U g.method c below := by rw [hg]; exact X.here
  have hlocals9 : W9 + (maxL + 11) + (headSpec ws rm).room.locals ≤ R.locals := hlocals
  have happ : (headSpec ws rm).appliesLoose y e.platform (U.calling g mk a) = true :=
    Spec.appliesLoose_calling (g := g) h hdg hn hkY hinitY
      (X.room_calling (g := g) (R' := (headSpec ws rm).room) hsize hmY hcY hframes (by rw [hlY]; omega) h4 h5) h1
  obtain ⟨mid, hmid⟩ := h.above
  have hfr : (U.setTop g).frames = (.java g :: mid) ++ below := by rw [State.frames_setTop' g h.top, hmid]; rfl
  obtain ⟨o, s₂, hsteps, -, hend, hq⟩ := Steps.callFree hM p X.admits X.cas X.clock (acts := []) hfr happ hPc trivial
  have hq' : vx_Q Qc XC mc ms free a (U.calling g mk a) o s₂ := hq
  rw [State.frames_setTop' g h.top] at hend
  obtain ⟨g₀, hg0⟩ := Option.isSome_iff_exists.mp h.top
  obtain ⟨r, hr⟩ := State.topJava?_eq_some.mp hg0
  have hr' : (({ U with heap := s₂.heap, slotsUsed := s₂.slotsUsed } : State).setVm s₂.vm).frames = .java g₀ :: r := hr
  rcases hq' with ⟨hqc, L, hfe, hL⟩ | ⟨q, rfl, E, ce, L, hx, hce, hcv, hcl, hW₂, hsm, hL⟩
  · obtain ⟨⟨v, rfl⟩, hW₂, e2, q2, q3, q4, q5, q6⟩ := id hfe
    have e3 : s₂ = ({ (U.calling g mk a).setFrames s₂.frames with heap := s₂.heap, slotsUsed := s₂.slotsUsed } : State).setVm s₂.vm := by
      have : s₂ = ({ s₂ with vm := (U.calling g mk a).vm } : State).setVm s₂.vm := rfl
      rw [e2] at this
      exact this
    obtain ⟨c₂, i₂, len₂, hc₂, hd₂, hf₂⟩ := hend
    have hW' : U.WarmedH s₂.vm := hW₂
    have hcc : c₂ = c := by
      have h1 : s₂.code? g.method = U.code? g.method := by
        rw [State.code?_eq, State.code?_eq, hW'.alike.method?]
      exact Option.some.inj (hc₂.symm.trans (h1.trans h.code))
    subst hcc
    have hlen : len₂ = len := by rw [hdg] at hd₂; cases hd₂; rfl
    subst hlen
    have hs₂ : s₂ = (({ U with heap := s₂.heap, slotsUsed := s₂.slotsUsed } : State).setVm s₂.vm).setTop { g with pc := g.pc + len₂, stack := v.toList ++ g.stack } := by
      refine e3.trans ?_
      rw [hf₂, State.calling_eq h.top, State.setFrames_setFrames, State.setTop_of_frames _ hr', hr]
      rfl
    have hsame : U.sameButNew ({ U with heap := s₂.heap, slotsUsed := s₂.slotsUsed } : State) L mc ms := by
      refine ⟨?_, q2, q3, q4, q5, q6⟩
      obtain ⟨t, ht, -⟩ := State.frames_cons hr
      show ({ U with heap := s₂.heap, slotsUsed := s₂.slotsUsed } : State) = { U.setFrames U.frames with heap := s₂.heap, slotsUsed := s₂.slotsUsed }
      rw [State.setFrames_self ht]
    subst hg
    refine Or.inl ⟨v, ⟨(({ U with heap := s₂.heap, slotsUsed := s₂.slotsUsed } : State).setVm s₂.vm), Ls ++ L, c0 + mc, s0 + ms⟩,
      ⟨X.admits, X.cas, X.clock, X.frames, X.room, X.hears, X.method, X.code, (X.here.setHeapUsed s₂.heap s₂.slotsUsed).setVm hW'.alike, X.tail, State.WarmedH.trans X.warmed hW', X.limits, X.bytes, X.same.trans (hsame.setVm s.vm)⟩,
      ⟨g, mk, s₂, L, rfl, rfl, hqc, rfl, hL, rfl, rfl⟩, ?_⟩
    show Steps p.tables e below _ ((({ U with heap := s₂.heap, slotsUsed := s₂.slotsUsed } : State).setVm s₂.vm).setTop { g with pc := g.pc + len₂, stack := v.toList ++ g.stack })
    rw [← hs₂]
    exact hsteps
  · obtain ⟨e2, q2, q3, q4, q5, q6⟩ := id hsm
    have e3 : s₂ = ({ (U.calling g mk a).setFrames s₂.frames with heap := s₂.heap, slotsUsed := s₂.slotsUsed } : State).setVm s₂.vm := by
      have : s₂ = ({ s₂ with vm := (U.calling g mk a).vm } : State).setVm s₂.vm := rfl
      rw [e2] at this
      exact this
    have hf₂ : s₂.frames = .throwing q :: .java g :: U.frames.tail := hend
    have hW' : U.WarmedH s₂.vm := hW₂
    have hs₂ : s₂ = ((({ U with heap := s₂.heap, slotsUsed := s₂.slotsUsed } : State).setVm s₂.vm).setTop g).pushFrame (.throwing q) := by
      refine e3.trans ?_
      rw [hf₂, State.calling_eq h.top, State.setFrames_setFrames, State.pushFrame, State.frames_setTop _ hr', State.setTop_of_frames _ hr', State.setFrames_setFrames, hr]
      rfl
    have hsame : U.sameButNew ({ U with heap := s₂.heap, slotsUsed := s₂.slotsUsed } : State) L mc ms := by
      refine ⟨?_, q2, q3, q4, q5, q6⟩
      obtain ⟨t, ht, -⟩ := State.frames_cons hr
      show ({ U with heap := s₂.heap, slotsUsed := s₂.slotsUsed } : State) = { U.setFrames U.frames with heap := s₂.heap, slotsUsed := s₂.slotsUsed }
      rw [State.setFrames_self ht]
    subst hg
    refine Or.inr ⟨q, ⟨(({ U with heap := s₂.heap, slotsUsed := s₂.slotsUsed } : State).setVm s₂.vm), Ls ++ L, c0 + mc, s0 + ms⟩,
      ⟨X.admits, X.cas, X.clock, X.frames, X.room, X.hears, X.method, X.code, (X.here.setHeapUsed s₂.heap s₂.slotsUsed).setVm hW'.alike, X.tail, State.WarmedH.trans X.warmed hW', X.limits, X.bytes, X.same.trans (hsame.setVm s.vm)⟩,
      ⟨g, mk, s₂, L, E, ce, rfl, rfl, hx, hce, hcv, hcl, rfl, hL, rfl, rfl⟩, ?_⟩
    show Steps p.tables e below _ (((({ U with heap := s₂.heap, slotsUsed := s₂.slotsUsed } : State).setVm s₂.vm).setTop g).pushFrame (.throwing q))
    rw [← hs₂]
    exact hsteps
end Payer
section Calls
variable {p : Program} {l : Launch} {e : Env} {R : Room} {s : State} {m : MethodId} {args : Array Value} {below : List Frame} {meth : Method} {c : Code} {T : State} {locs : List Loc} {cells slots : Nat}
theorem vx_callV (X : Stand p l e R s m args below meth c T locs cells slots) (hexec : p.tables.exec = Jvm.exec) {own C : String} {index : Nat} {y : MethodName} {bytes : ByteArray} {maxL : Nat} {ret : Option FieldType}
    (hown : s.vm.findClass own = some m.cls) (hlink : (Cond.methodLink own index y).before args s = true) (hinst : (Cond.instanceMethod y).before args s = true) (hsel : (Cond.selects C y y).before args s = true)
    (hcode : (Cond.code y bytes maxL ret).before args s = true) (hy : y.cls ≠ "java/lang/invoke/MethodHandle" ∧ y.cls ≠ "java/lang/invoke/VarHandle")
    {W9 : Nat} {Pre : Pt → Array Value → Prop} {Post : Pt → Array Value → Option Value → Pt → Prop} {PostX : Pt → Array Value → Addr → Pt → Prop} (hK : vx_Back l R p e below s args y 3 W9 Pre Post PostX)
    {b : Addr} {cellB : Cell} (hcell : T.heap[b]? = some cellB) (hobj : cellB.vm.isStatics = false) (hcls : s.vm.findClass C = some cellB.cls)
    {g : JFrame} (hg : g.method = m) (hsize : g.locals.size = c.maxLocals) {argsL rest : List Value} (hlen : ∀ sig, parseMethodDescriptor y.desc = some sig → argsL.length = sig.parameters.length)
    (hstack : g.stack = argsL.reverse ++ .ref b :: rest) (hW : 2 * g.monitorRoom + (rest.map fun v => v.category).sum ≤ W9) (hdg : decode c.code g.pc = .ok (.invokevirtual index, 3))
    (hpre : ∀ vm₁, s.WarmedH vm₁ → Pre ⟨T.setVm vm₁, locs, cells, slots⟩ (Value.ref b :: argsL).toArray) :
    (∃ (v : Option Value) (vm₁ : Vm) (B : Pt), s.WarmedH vm₁ ∧ Stand p l e R s m args below meth c B.U B.locs B.cells B.slots ∧ Post ⟨T.setVm vm₁, locs, cells, slots⟩ (Value.ref b :: argsL).toArray v B ∧
      ∀ target, Steps p.tables e below (B.U.setTop { g with pc := g.pc + 3, stack := v.toList ++ rest }) target → Steps p.tables e below (T.setTop g) target) ∨
    (∃ (q : Addr) (vm₁ : Vm) (B : Pt), s.WarmedH vm₁ ∧ Stand p l e R s m args below meth c B.U B.locs B.cells B.slots ∧ PostX ⟨T.setVm vm₁, locs, cells, slots⟩ (Value.ref b :: argsL).toArray q B ∧
      Steps p.tables e below (T.setTop g) ((B.U.setTop { g with stack := rest }).pushFrame (.throwing q))) := by
  obtain ⟨mk, methM, hnamed, hmethM, hstM, habM⟩ := Cond.instanceMethod_spec hinst
  obtain ⟨methM', cM, hmethM', -, -, -, -, -, -, hsigM⟩ := Cond.code_spec hnamed hcode
  cases hmethM.symm.trans hmethM'
  obtain ⟨c2, r2, m2, q1, q2, q3, q4, kP, hkP, hkPi⟩ := Cond.selects_spec hsel
  cases hcls.symm.trans q1
  cases (State.methodFound?_of_named hnamed hy).symm.trans q2
  cases hnamed.symm.trans q3
  have hselP : selectMethod e.platform s.vm cellB.cls mk = .method mk := by rw [Launch.admits_selectMethod X.admits]; exact q4
  obtain ⟨vm₁, X₁, hstep₁⟩ := X.invokevirtual hexec hown hlink hnamed hmethM hstM hkP hkPi hy (a := b) (cell := cellB) hcell
    (fun z h => by rw [h] at hobj; cases hobj) hselP hmethM habM hkP hkPi (g := g) hg (argsL := argsL) (rest := rest) (hlen _ hsigM) hstack hdg
  rcases hK m meth c ⟨T.setVm vm₁, locs, cells, slots⟩ { g with stack := rest } (.invokevirtual index) mk (Value.ref b :: argsL).toArray X₁ hg hsize hdg hW (X₁.named hnamed) (hpre vm₁ X₁.warmed) with ⟨v, B, X', hpost, hsteps⟩ | ⟨q, B, X', hpost, hsteps⟩
  · exact Or.inl ⟨v, vm₁, B, X₁.warmed, X', hpost, fun target h => hstep₁ _ fun acts => by rw [doInvoke_state]; exact hsteps.trans h⟩
  · exact Or.inr ⟨q, vm₁, B, X₁.warmed, X', hpost, hstep₁ _ fun acts => by rw [doInvoke_state]; exact hsteps⟩
theorem vx_callS (X : Stand p l e R s m args below meth c T locs cells slots) (hexec : p.tables.exec = Jvm.exec) {own : String} {index : Nat} {y : MethodName} {bytes : ByteArray} {maxL : Nat} {ret : Option FieldType}
    (hown : s.vm.findClass own = some m.cls) (hlink : (Cond.methodLink own index y).before args s = true) (hstat : (Cond.static y).before args s = true) (hinit : (Cond.initialized y.cls).before args s = true)
    (hcode : (Cond.code y bytes maxL ret).before args s = true) (hy : y.cls ≠ "java/lang/invoke/MethodHandle" ∧ y.cls ≠ "java/lang/invoke/VarHandle")
    {W9 : Nat} {Pre : Pt → Array Value → Prop} {Post : Pt → Array Value → Option Value → Pt → Prop} {PostX : Pt → Array Value → Addr → Pt → Prop} (hK : vx_Back l R p e below s args y 3 W9 Pre Post PostX)
    {g : JFrame} (hg : g.method = m) (hsize : g.locals.size = c.maxLocals) {argsL rest : List Value} (hlen : ∀ sig, parseMethodDescriptor y.desc = some sig → argsL.length = sig.parameters.length)
    (hstack : g.stack = argsL.reverse ++ rest) (hW : 2 * g.monitorRoom + (rest.map fun v => v.category).sum ≤ W9) (hdg : decode c.code g.pc = .ok (.invokestatic index, 3))
    (hpre : ∀ vm₁, s.WarmedH vm₁ → Pre ⟨T.setVm vm₁, locs, cells, slots⟩ argsL.toArray) :
    (∃ (v : Option Value) (vm₁ : Vm) (B : Pt), s.WarmedH vm₁ ∧ Stand p l e R s m args below meth c B.U B.locs B.cells B.slots ∧ Post ⟨T.setVm vm₁, locs, cells, slots⟩ argsL.toArray v B ∧
      ∀ target, Steps p.tables e below (B.U.setTop { g with pc := g.pc + 3, stack := v.toList ++ rest }) target → Steps p.tables e below (T.setTop g) target) ∨
    (∃ (q : Addr) (vm₁ : Vm) (B : Pt), s.WarmedH vm₁ ∧ Stand p l e R s m args below meth c B.U B.locs B.cells B.slots ∧ PostX ⟨T.setVm vm₁, locs, cells, slots⟩ argsL.toArray q B ∧
      Steps p.tables e below (T.setTop g) ((B.U.setTop { g with stack := rest }).pushFrame (.throwing q))) := by
  obtain ⟨mk, hnamed⟩ := Cond.code_named hcode
  obtain ⟨methM, cM, hmethM, -, -, -, -, -, -, hsigM⟩ := Cond.code_spec hnamed hcode
  have hstatic : methM.isStatic = true := Cond.static_spec hnamed hmethM hstat
  obtain ⟨kP, hkP, -⟩ := className_of_methodNamed hnamed
  have hinitP : kP.init = .initialized := Cond.initialized_spec (findClass_of_methodNamed hnamed) hkP hinit
  obtain ⟨vm₁, X₁, hstep₁⟩ := X.invokestatic hexec hown hlink hnamed hmethM hstatic hkP hinitP hy (g := g) hg (argsL := argsL) (rest := rest) (hlen _ hsigM) hstack hdg
  rcases hK m meth c ⟨T.setVm vm₁, locs, cells, slots⟩ { g with stack := rest } (.invokestatic index) mk argsL.toArray X₁ hg hsize hdg hW (X₁.named hnamed) (hpre vm₁ X₁.warmed) with ⟨v, B, X', hpost, hsteps⟩ | ⟨q, B, X', hpost, hsteps⟩
  · exact Or.inl ⟨v, vm₁, B, X₁.warmed, X', hpost, fun target h => hstep₁ _ fun acts => by rw [doInvoke_state]; exact hsteps.trans h⟩
  · exact Or.inr ⟨q, vm₁, B, X₁.warmed, X', hpost, hstep₁ _ fun acts => by rw [doInvoke_state]; exact hsteps⟩
end Calls
theorem vx_cls {s : State} {T : State} {vm₁ : Vm} {E : String} {k : ClassId} (hW : s.WarmedH vm₁) (h : (T.setVm vm₁).vm.findClass E = some k) : s.vm.findClass E = some k := by
  have h1 : vm₁.findClass E = some k := h
  rw [hW.alike.findClass] at h1
  exact h1
/-- the method's frame g, with q thrown over it -/
def vx_W (p : Program) (l : Launch) (e : Env) (R : Room) (s : State) (m : MethodId) (args : Array Value) (below : List Frame) (meth : Method) (c : Code) (H : Heap) (locs : List Loc) (cells slots : Nat) (Q : State → Prop) (g : JFrame) (q : Addr) : Prop :=
  ∀ T : State, T.heap = H → Stand p l e R s m args below meth c T locs cells slots → ∃ t, Steps p.tables e below ((T.setTop g).pushFrame (.throwing q)) t ∧ Q t
def vx_Run (p : Program) (l : Launch) (e : Env) (R : Room) (s : State) (m : MethodId) (args : Array Value) (below : List Frame) (meth : Method) (c : Code) (H : Heap) (locs : List Loc) (cells slots mc ms : Nat) (g : JFrame) (rest : List Value) (Qa : State → Outcome → State → Prop) (XC : String → Addr → State → State → Prop) (free : Addr → Prop) : Prop :=
  ∀ T : State, T.heap = H → Stand p l e R s m args below meth c T locs cells slots →
    (∃ (v : Option Value) (st₀ t T' : State) (L : List Loc), st₀.heap = H ∧ Stand p l e R s m args below meth c T' (locs ++ L) (cells + mc) (slots + ms) ∧ (∀ q ∈ L, free q.base) ∧ T'.heap = t.heap ∧ T'.vm = t.vm ∧ Qa st₀ (.returned v) t ∧
      Goes p e below T g T' { g with pc := g.pc + 3, stack := v.toList ++ rest }) ∨
    (∃ (q : Addr) (st₀ t T' : State) (L : List Loc) (E : String) (ce : Cell), st₀.heap = H ∧ Stand p l e R s m args below meth c T' (locs ++ L) (cells + mc) (slots + ms) ∧ (∀ z ∈ L, free z.base) ∧ T'.heap = t.heap ∧ T'.vm = t.vm ∧ XC E q st₀ t ∧ t.heap[q]? = some ce ∧ ce.vm = .none ∧ s.vm.findClass E = some ce.cls ∧
      Steps p.tables e below (T.setTop g) ((T'.setTop { g with stack := rest }).pushFrame (.throwing q)))
def vx_X {S : Type} (px : S → Prop) (B : String → Addr → S → State → Prop) (A : Nat → Prop) : String → Addr → State → State → Prop := fun E q st t => ∃ u : S, px u ∧ B E q u t ∧ va_F A st t
section Runs
variable {p : Program} {l : Launch} {e : Env} {R : Room} {s : State} {m : MethodId} {args : Array Value} {below : List Frame} {meth : Method} {c : Code} {H : Heap} {locs : List Loc} {cells slots : Nat}
variable {y : MethodName} {bytes cc : ByteArray} {maxL nL mc ms n index : Nat} {ret : Option FieldType} {ws : List Cond} {rm : Room} {Pc : Array Value → State → Prop} {Qc : Array Value → State → Outcome → State → Prop} {XC : String → Addr → State → State → Prop} {free : Addr → Prop} {Ts : List Cond} {own C : String} {b : Addr} {As rest : List Value} {g : JFrame}
theorem vx_callBack (cb : CallB R s args own index y bytes maxL ret ws rm mc ms n) (hM : vx_Met l y ws rm Pc Qc XC mc ms free) (hbl : FrameBlind Pc) : vx_Back l R p e below s args y 3 8 (PreOf R mc ms Pc) (PostOf Qc mc ms free) (vx_Post XC mc ms free) := by
  obtain ⟨hrc, hrs, hfr, hlo, hws, hcw, -, hini, -⟩ := cb
  exact vx_back (bytes := bytes) (maxL := maxL) (ret := ret) hM hbl hrc hrs hfr hlo hws hcw (fun a' U hW => word_at hW (Or.inl (by first | rfl | simp [Cond.onTables, Cond.keeps, Cond.steady])) hini)
theorem vx_runV (S : CallFix p m c cc nL s args Ts own) (hM : vx_Met l y ws rm Pc Qc XC mc ms free) (cw : CallW R s args own C index y bytes maxL ret ws rm mc ms n) (hp : PreV s H C b Pc As)
    (hg : g.method = m) (hn : As.length = n) (hsize : g.locals.size = nL) (hstack : g.stack = As.reverse ++ .ref b :: rest) (hW : 2 * g.monitorRoom + (rest.map fun v => v.category).sum ≤ 8) (hdg : decode cc g.pc = .ok (.invokevirtual index, 3)) (hf : cells + mc ≤ R.cells ∧ slots + ms ≤ R.slots) :
    vx_Run p l e R s m args below meth c H locs cells slots mc ms g rest (Qc (Value.ref b :: As).toArray) XC free := by
  have hK : vx_Back l R p e below s args y 3 8 (PreOf R mc ms Pc) (PostOf Qc mc ms free) (vx_Post XC mc ms free) := vx_callBack cw.1 hM hp.1
  obtain ⟨⟨-, -, -, -, -, -, hcode, -, hy, hlen, hl⟩, hin, hse⟩ := cw
  obtain ⟨hx, hb, hml, ho, -⟩ := S
  obtain ⟨-, ⟨cellB, hcB, hoB, hclB⟩, hPc⟩ := hp
  intro T hT X
  rcases vx_callV X hx (C := C) (bytes := bytes) (maxL := maxL) (ret := ret) ho hl hin hse hcode hy hK (by rw [hT]; exact hcB) hoB hclB hg (hsize.trans hml.symm) (argsL := As) (rest := rest) (fun sig h => hn.trans (hlen sig h)) hstack hW (by rw [hb]; exact hdg)
    (fun vm₁ hW₁ => ⟨hf.1, hf.2, hPc (T.setVm vm₁) hT hW₁⟩) with ⟨v, vm₁, ⟨U', l2, c2, s2⟩, hW₁, X', ⟨g', mk, t, L, e1, e2, hq, h1, hL, h2, h3⟩, st⟩ | ⟨q, vm₁, ⟨U', l2, c2, s2⟩, hW₁, X', ⟨g', mk, t, L, E, ce, e1, e2, hq, hce, hcv, hcl, h1, hL, h2, h3⟩, st⟩
  · dsimp only [Pt.U, Pt.locs, Pt.cells, Pt.slots] at X' e1 e2 h1 h2 h3 st
    subst h1; subst h2; subst h3
    exact Or.inl ⟨v, (T.setVm vm₁).calling g' mk (Value.ref b :: As).toArray, t, U', L, hT, X', hL, e1, e2, hq, st⟩
  · dsimp only [Pt.U, Pt.locs, Pt.cells, Pt.slots] at X' e1 e2 h1 h2 h3 st hcl
    subst h1; subst h2; subst h3
    exact Or.inr ⟨q, (T.setVm vm₁).calling g' mk (Value.ref b :: As).toArray, t, U', L, E, ce, hT, X', hL, e1, e2, hq, hce, hcv, vx_cls hW₁ hcl, st⟩
theorem vx_runS (S : CallFix p m c cc nL s args Ts own) (hM : vx_Met l y ws rm Pc Qc XC mc ms free) (cw : CallB R s args own index y bytes maxL ret ws rm mc ms n ∧ (Cond.static y).before args s = true) (hp : PreS s H Pc As)
    (hg : g.method = m) (hn : As.length = n) (hsize : g.locals.size = nL) (hstack : g.stack = As.reverse ++ rest) (hW : 2 * g.monitorRoom + (rest.map fun v => v.category).sum ≤ 8) (hdg : decode cc g.pc = .ok (.invokestatic index, 3)) (hf : cells + mc ≤ R.cells ∧ slots + ms ≤ R.slots) :
    vx_Run p l e R s m args below meth c H locs cells slots mc ms g rest (Qc As.toArray) XC free := by
  have hK : vx_Back l R p e below s args y 3 8 (PreOf R mc ms Pc) (PostOf Qc mc ms free) (vx_Post XC mc ms free) := vx_callBack cw.1 hM hp.1
  obtain ⟨⟨-, -, -, -, -, -, hcode, hini, hy, hlen, hl⟩, hstt⟩ := cw
  obtain ⟨hx, hb, hml, ho, -⟩ := S
  intro T hT X
  rcases vx_callS X hx (bytes := bytes) (maxL := maxL) (ret := ret) ho hl hstt hini hcode hy hK hg (hsize.trans hml.symm) (argsL := As) (rest := rest) (fun sig h => hn.trans (hlen sig h)) hstack hW (by rw [hb]; exact hdg)
    (fun vm₁ hW₁ => ⟨hf.1, hf.2, hp.2 (T.setVm vm₁) hT hW₁⟩) with ⟨v, vm₁, ⟨U', l2, c2, s2⟩, hW₁, X', ⟨g', mk, t, L, e1, e2, hq, h1, hL, h2, h3⟩, st⟩ | ⟨q, vm₁, ⟨U', l2, c2, s2⟩, hW₁, X', ⟨g', mk, t, L, E, ce, e1, e2, hq, hce, hcv, hcl, h1, hL, h2, h3⟩, st⟩
  · dsimp only [Pt.U, Pt.locs, Pt.cells, Pt.slots] at X' e1 e2 h1 h2 h3 st
    subst h1; subst h2; subst h3
    exact Or.inl ⟨v, (T.setVm vm₁).calling g' mk As.toArray, t, U', L, hT, X', hL, e1, e2, hq, st⟩
  · dsimp only [Pt.U, Pt.locs, Pt.cells, Pt.slots] at X' e1 e2 h1 h2 h3 st hcl
    subst h1; subst h2; subst h3
    exact Or.inr ⟨q, (T.setVm vm₁).calling g' mk As.toArray, t, U', L, E, ce, hT, X', hL, e1, e2, hq, hce, hcv, vx_cls hW₁ hcl, st⟩
end Runs
section Rows
variable {p : Program} {l : Launch} {e : Env} {R : Room} {s : State} {m : MethodId} {args : Array Value} {below : List Frame} {meth : Method} {c : Code} {H : Heap} {locs : List Loc} {cells slots : Nat} {Q : State → Prop}
variable {mc ms : Nat} {free : Addr → Prop} {A0 A1 : Nat → Prop} {H0 : Heap} {a : Array Value} {pc : Nat} {ls : Array Slot} {st0 rest : List Value}
theorem vx_keep {st₀ t T' : State} {L : List Loc} (h0 : st₀.heap = H) (e1 : T'.heap = t.heap) (hS : va_S A0 H0 H locs) (hA : ∀ q, q < H.size → A1 q → A0 q) (hf : ∀ q, free q → A0 q) (hL : ∀ q ∈ L, free q.base) (hF : va_F A1 st₀ t) :
    H.size ≤ T'.heap.size ∧ (∀ q : Nat, q < H.size → ¬ A1 q → T'.heap[q]? = H[q]?) ∧ va_S A0 H0 T'.heap (locs ++ L) := by
  obtain ⟨hz, hk⟩ := hF
  rw [h0] at hz hk
  exact ⟨by rw [e1]; exact hz, fun q h1 h2 => by rw [e1]; exact hk q h1 h2,
    ⟨Nat.le_trans hS.1 (by rw [e1]; exact hz), fun q h1 h2 => by rw [e1, hk q (Nat.lt_of_lt_of_le h1 hS.1) (fun z => h2 (hA q (Nat.lt_of_lt_of_le h1 hS.1) z))]; exact hS.2.1 q h1 h2, fun q hq => by
      rcases List.mem_append.mp hq with h | h
      · exact hS.2.2 q h
      · exact hf _ (hL q h)⟩⟩
theorem vx_calli {S SX : Type} {post : Int32 → S → Prop} {px : SX → Prop} {B : S → State → Prop} {BX : String → Addr → SX → State → Prop} {AX : Nat → Prop} (hr : vx_Run p l e R s m args below meth c H locs cells slots mc ms (F0 m pc ls st0) rest (va_Qi post B A1 a) (vx_X px BX AX) free) (hS : va_S A0 H0 H locs) (hA : ∀ q, q < H.size → A1 q → A0 q) (hf : ∀ q, free q → A0 q) (hAX : ∀ q, q < H.size → AX q → A0 q)
    (kx : ∀ (E : String) (ce : Cell) (q9 : Addr) (u : SX) (t : State) (H1 : Heap) (locs1 : List Loc), t.heap = H1 → s.vm.Alike t.vm → px u → BX E q9 u t → H.size ≤ H1.size → (∀ q : Nat, q < H.size → ¬ AX q → H1[q]? = H[q]?) → va_S A0 H0 H1 locs1 → H1[q9]? = some ce → ce.vm = .none → s.vm.findClass E = some ce.cls → vx_W p l e R s m args below meth c H1 locs1 (cells + mc) (slots + ms) Q (F0 m pc ls rest) q9)
    (kk : ∀ (r : Int32) (u : S) (t : State) (H1 : Heap) (locs1 : List Loc), t.heap = H1 → s.vm.Alike t.vm → post r u → B u t → H.size ≤ H1.size → (∀ q : Nat, q < H.size → ¬ A1 q → H1[q]? = H[q]?) → va_S A0 H0 H1 locs1 → W p l e R s m args below meth c H1 locs1 (cells + mc) (slots + ms) Q (F0 m (pc + 3) ls (.int r :: rest))) : W p l e R s m args below meth c H locs cells slots Q (F0 m pc ls st0) := by
  intro T hT X
  rcases hr T hT X with ⟨v, st₀, t, T', L, h0, X', hL, e1, e2, ⟨⟨r, u, hv, hp, hb⟩, hF⟩, st⟩ | ⟨q, st₀, t, T', L, E, ce, h0, X', hL, e1, e2, ⟨u, hp, hb, hF⟩, hce, hcv, hcl, st⟩
  · cases hv
    obtain ⟨k1, k2, k3⟩ := vx_keep h0 e1 hS hA hf hL hF
    obtain ⟨t2, a1, b1⟩ := kk r u t T'.heap (locs ++ L) e1.symm (by rw [← e2]; exact X'.warmed.alike) hp hb k1 k2 k3 T' rfl X'
    exact ⟨t2, st t2 a1, b1⟩
  · obtain ⟨k1, k2, k3⟩ := vx_keep h0 e1 hS hAX hf hL hF
    obtain ⟨t2, a1, b1⟩ := kx E ce q u t T'.heap (locs ++ L) e1.symm (by rw [← e2]; exact X'.warmed.alike) hp hb k1 k2 k3 (by rw [e1]; exact hce) hcv hcl T' rfl X'
    exact ⟨t2, st.trans a1, b1⟩
theorem vx_calll {S SX : Type} {post : Int64 → S → Prop} {px : SX → Prop} {B : S → State → Prop} {BX : String → Addr → SX → State → Prop} {AX : Nat → Prop} (hr : vx_Run p l e R s m args below meth c H locs cells slots mc ms (F0 m pc ls st0) rest (va_Ql post B A1 a) (vx_X px BX AX) free) (hS : va_S A0 H0 H locs) (hA : ∀ q, q < H.size → A1 q → A0 q) (hf : ∀ q, free q → A0 q) (hAX : ∀ q, q < H.size → AX q → A0 q)
    (kx : ∀ (E : String) (ce : Cell) (q9 : Addr) (u : SX) (t : State) (H1 : Heap) (locs1 : List Loc), t.heap = H1 → s.vm.Alike t.vm → px u → BX E q9 u t → H.size ≤ H1.size → (∀ q : Nat, q < H.size → ¬ AX q → H1[q]? = H[q]?) → va_S A0 H0 H1 locs1 → H1[q9]? = some ce → ce.vm = .none → s.vm.findClass E = some ce.cls → vx_W p l e R s m args below meth c H1 locs1 (cells + mc) (slots + ms) Q (F0 m pc ls rest) q9)
    (kk : ∀ (r : Int64) (u : S) (t : State) (H1 : Heap) (locs1 : List Loc), t.heap = H1 → s.vm.Alike t.vm → post r u → B u t → H.size ≤ H1.size → (∀ q : Nat, q < H.size → ¬ A1 q → H1[q]? = H[q]?) → va_S A0 H0 H1 locs1 → W p l e R s m args below meth c H1 locs1 (cells + mc) (slots + ms) Q (F0 m (pc + 3) ls (.long r :: rest))) : W p l e R s m args below meth c H locs cells slots Q (F0 m pc ls st0) := by
  intro T hT X
  rcases hr T hT X with ⟨v, st₀, t, T', L, h0, X', hL, e1, e2, ⟨⟨r, u, hv, hp, hb⟩, hF⟩, st⟩ | ⟨q, st₀, t, T', L, E, ce, h0, X', hL, e1, e2, ⟨u, hp, hb, hF⟩, hce, hcv, hcl, st⟩
  · cases hv
    obtain ⟨k1, k2, k3⟩ := vx_keep h0 e1 hS hA hf hL hF
    obtain ⟨t2, a1, b1⟩ := kk r u t T'.heap (locs ++ L) e1.symm (by rw [← e2]; exact X'.warmed.alike) hp hb k1 k2 k3 T' rfl X'
    exact ⟨t2, st t2 a1, b1⟩
  · obtain ⟨k1, k2, k3⟩ := vx_keep h0 e1 hS hAX hf hL hF
    obtain ⟨t2, a1, b1⟩ := kx E ce q u t T'.heap (locs ++ L) e1.symm (by rw [← e2]; exact X'.warmed.alike) hp hb k1 k2 k3 (by rw [e1]; exact hce) hcv hcl T' rfl X'
    exact ⟨t2, st.trans a1, b1⟩
theorem vx_callf {S SX : Type} {post : UInt32 → S → Prop} {px : SX → Prop} {B : S → State → Prop} {BX : String → Addr → SX → State → Prop} {AX : Nat → Prop} (hr : vx_Run p l e R s m args below meth c H locs cells slots mc ms (F0 m pc ls st0) rest (va_Qf post B A1 a) (vx_X px BX AX) free) (hS : va_S A0 H0 H locs) (hA : ∀ q, q < H.size → A1 q → A0 q) (hf : ∀ q, free q → A0 q) (hAX : ∀ q, q < H.size → AX q → A0 q)
    (kx : ∀ (E : String) (ce : Cell) (q9 : Addr) (u : SX) (t : State) (H1 : Heap) (locs1 : List Loc), t.heap = H1 → s.vm.Alike t.vm → px u → BX E q9 u t → H.size ≤ H1.size → (∀ q : Nat, q < H.size → ¬ AX q → H1[q]? = H[q]?) → va_S A0 H0 H1 locs1 → H1[q9]? = some ce → ce.vm = .none → s.vm.findClass E = some ce.cls → vx_W p l e R s m args below meth c H1 locs1 (cells + mc) (slots + ms) Q (F0 m pc ls rest) q9)
    (kk : ∀ (r : UInt32) (u : S) (t : State) (H1 : Heap) (locs1 : List Loc), t.heap = H1 → s.vm.Alike t.vm → post r u → B u t → H.size ≤ H1.size → (∀ q : Nat, q < H.size → ¬ A1 q → H1[q]? = H[q]?) → va_S A0 H0 H1 locs1 → W p l e R s m args below meth c H1 locs1 (cells + mc) (slots + ms) Q (F0 m (pc + 3) ls (.float r :: rest))) : W p l e R s m args below meth c H locs cells slots Q (F0 m pc ls st0) := by
  intro T hT X
  rcases hr T hT X with ⟨v, st₀, t, T', L, h0, X', hL, e1, e2, ⟨⟨r, u, hv, hp, hb⟩, hF⟩, st⟩ | ⟨q, st₀, t, T', L, E, ce, h0, X', hL, e1, e2, ⟨u, hp, hb, hF⟩, hce, hcv, hcl, st⟩
  · cases hv
    obtain ⟨k1, k2, k3⟩ := vx_keep h0 e1 hS hA hf hL hF
    obtain ⟨t2, a1, b1⟩ := kk r u t T'.heap (locs ++ L) e1.symm (by rw [← e2]; exact X'.warmed.alike) hp hb k1 k2 k3 T' rfl X'
    exact ⟨t2, st t2 a1, b1⟩
  · obtain ⟨k1, k2, k3⟩ := vx_keep h0 e1 hS hAX hf hL hF
    obtain ⟨t2, a1, b1⟩ := kx E ce q u t T'.heap (locs ++ L) e1.symm (by rw [← e2]; exact X'.warmed.alike) hp hb k1 k2 k3 (by rw [e1]; exact hce) hcv hcl T' rfl X'
    exact ⟨t2, st.trans a1, b1⟩
theorem vx_calld {S SX : Type} {post : UInt64 → S → Prop} {px : SX → Prop} {B : S → State → Prop} {BX : String → Addr → SX → State → Prop} {AX : Nat → Prop} (hr : vx_Run p l e R s m args below meth c H locs cells slots mc ms (F0 m pc ls st0) rest (va_Qd post B A1 a) (vx_X px BX AX) free) (hS : va_S A0 H0 H locs) (hA : ∀ q, q < H.size → A1 q → A0 q) (hf : ∀ q, free q → A0 q) (hAX : ∀ q, q < H.size → AX q → A0 q)
    (kx : ∀ (E : String) (ce : Cell) (q9 : Addr) (u : SX) (t : State) (H1 : Heap) (locs1 : List Loc), t.heap = H1 → s.vm.Alike t.vm → px u → BX E q9 u t → H.size ≤ H1.size → (∀ q : Nat, q < H.size → ¬ AX q → H1[q]? = H[q]?) → va_S A0 H0 H1 locs1 → H1[q9]? = some ce → ce.vm = .none → s.vm.findClass E = some ce.cls → vx_W p l e R s m args below meth c H1 locs1 (cells + mc) (slots + ms) Q (F0 m pc ls rest) q9)
    (kk : ∀ (r : UInt64) (u : S) (t : State) (H1 : Heap) (locs1 : List Loc), t.heap = H1 → s.vm.Alike t.vm → post r u → B u t → H.size ≤ H1.size → (∀ q : Nat, q < H.size → ¬ A1 q → H1[q]? = H[q]?) → va_S A0 H0 H1 locs1 → W p l e R s m args below meth c H1 locs1 (cells + mc) (slots + ms) Q (F0 m (pc + 3) ls (.double r :: rest))) : W p l e R s m args below meth c H locs cells slots Q (F0 m pc ls st0) := by
  intro T hT X
  rcases hr T hT X with ⟨v, st₀, t, T', L, h0, X', hL, e1, e2, ⟨⟨r, u, hv, hp, hb⟩, hF⟩, st⟩ | ⟨q, st₀, t, T', L, E, ce, h0, X', hL, e1, e2, ⟨u, hp, hb, hF⟩, hce, hcv, hcl, st⟩
  · cases hv
    obtain ⟨k1, k2, k3⟩ := vx_keep h0 e1 hS hA hf hL hF
    obtain ⟨t2, a1, b1⟩ := kk r u t T'.heap (locs ++ L) e1.symm (by rw [← e2]; exact X'.warmed.alike) hp hb k1 k2 k3 T' rfl X'
    exact ⟨t2, st t2 a1, b1⟩
  · obtain ⟨k1, k2, k3⟩ := vx_keep h0 e1 hS hAX hf hL hF
    obtain ⟨t2, a1, b1⟩ := kx E ce q u t T'.heap (locs ++ L) e1.symm (by rw [← e2]; exact X'.warmed.alike) hp hb k1 k2 k3 (by rw [e1]; exact hce) hcv hcl T' rfl X'
    exact ⟨t2, st.trans a1, b1⟩
theorem vx_callv {S SX : Type} {post : S → Prop} {px : SX → Prop} {B : S → State → Prop} {BX : String → Addr → SX → State → Prop} {AX : Nat → Prop} (hr : vx_Run p l e R s m args below meth c H locs cells slots mc ms (F0 m pc ls st0) rest (va_Qv post B A1 a) (vx_X px BX AX) free) (hS : va_S A0 H0 H locs) (hA : ∀ q, q < H.size → A1 q → A0 q) (hf : ∀ q, free q → A0 q) (hAX : ∀ q, q < H.size → AX q → A0 q)
    (kx : ∀ (E : String) (ce : Cell) (q9 : Addr) (u : SX) (t : State) (H1 : Heap) (locs1 : List Loc), t.heap = H1 → s.vm.Alike t.vm → px u → BX E q9 u t → H.size ≤ H1.size → (∀ q : Nat, q < H.size → ¬ AX q → H1[q]? = H[q]?) → va_S A0 H0 H1 locs1 → H1[q9]? = some ce → ce.vm = .none → s.vm.findClass E = some ce.cls → vx_W p l e R s m args below meth c H1 locs1 (cells + mc) (slots + ms) Q (F0 m pc ls rest) q9)
    (kk : ∀ (u : S) (t : State) (H1 : Heap) (locs1 : List Loc), t.heap = H1 → s.vm.Alike t.vm → post u → B u t → H.size ≤ H1.size → (∀ q : Nat, q < H.size → ¬ A1 q → H1[q]? = H[q]?) → va_S A0 H0 H1 locs1 → W p l e R s m args below meth c H1 locs1 (cells + mc) (slots + ms) Q (F0 m (pc + 3) ls (rest))) : W p l e R s m args below meth c H locs cells slots Q (F0 m pc ls st0) := by
  intro T hT X
  rcases hr T hT X with ⟨v, st₀, t, T', L, h0, X', hL, e1, e2, ⟨⟨u, hv, hp, hb⟩, hF⟩, st⟩ | ⟨q, st₀, t, T', L, E, ce, h0, X', hL, e1, e2, ⟨u, hp, hb, hF⟩, hce, hcv, hcl, st⟩
  · cases hv
    obtain ⟨k1, k2, k3⟩ := vx_keep h0 e1 hS hA hf hL hF
    obtain ⟨t2, a1, b1⟩ := kk u t T'.heap (locs ++ L) e1.symm (by rw [← e2]; exact X'.warmed.alike) hp hb k1 k2 k3 T' rfl X'
    exact ⟨t2, st t2 a1, b1⟩
  · obtain ⟨k1, k2, k3⟩ := vx_keep h0 e1 hS hAX hf hL hF
    obtain ⟨t2, a1, b1⟩ := kx E ce q u t T'.heap (locs ++ L) e1.symm (by rw [← e2]; exact X'.warmed.alike) hp hb k1 k2 k3 (by rw [e1]; exact hce) hcv hcl T' rfl X'
    exact ⟨t2, st.trans a1, b1⟩
/-- caught by the row x of this method's table; the rows ahead don't take it -/
theorem vx_catch {own name : String} {E : String} {ce : Cell} {q : Addr} (hown : s.vm.findClass own = some m.cls) (pre : List ExceptionTableEntry) (x : ExceptionTableEntry) (suf : List ExceptionTableEntry) (hsplit : c.exceptionTable.toList = pre ++ x :: suf)
    (hpass : ∀ z ∈ pre, covers z pc = false ∨ (z.catchType ≠ 0 ∧ ∃ nm : String, (Cond.classLink own z.catchType nm).before args s = true ∧ va_Nc E nm s)) (hx : covers x pc = true) (h0 : x.catchType ≠ 0)
    (hlink : (Cond.classLink own x.catchType name).before args s = true) (hcast : (Cond.castable E name).before args s = true) (hcell : H[q]? = some ce) (hv : ce.vm = .none) (hcl : s.vm.findClass E = some ce.cls)
    (kk : W p l e R s m args below meth c H locs cells slots Q (F0 m x.handlerPc ls [.ref q])) : vx_W p l e R s m args below meth c H locs cells slots Q (F0 m pc ls rest) q := by
  intro T hT X
  have hpl : e.platform.magicAccessors = ({} : Platform).magicAccessors := by rw [X.admits.platform]
  obtain ⟨c3, c4, hc3, hc4, hasg⟩ := Cond.castable_spec hcast
  cases Option.some.inj (hc3.symm.trans hcl)
  obtain ⟨c5, hc5, hcl5⟩ := Cond.classLink_spec hown hlink e.platform hpl
  cases Option.some.inj (hc4.symm.trans hc5)
  obtain ⟨vm', X', st⟩ := vy_caught X q (g := F0 m pc ls rest) rfl (by rw [hT]; exact hcell) (by rw [hv]; rfl) (by obtain ⟨k9, h9, -⟩ := Vm.findClass_spec hcl; exact ⟨k9, h9⟩) pre x suf hsplit
    (fun z hz => by
      rcases hpass z hz with h | ⟨hz0, nm, hl1, hn1⟩
      · exact Or.inl h
      · obtain ⟨c6, hc6, hcl6⟩ := Cond.classLink_spec hown hl1 e.platform hpl
        obtain ⟨a8, b8, h1, h2, h3⟩ := hn1
        cases Option.some.inj (h1.symm.trans hcl)
        cases Option.some.inj (h2.symm.trans hc6)
        exact Or.inr ⟨hz0, _, hcl6, h3⟩) hx (Or.inr ⟨h0, c4, hcl5, hasg⟩)
  obtain ⟨t, a1, b1⟩ := kk (T.setVm vm') hT X'
  exact ⟨t, st.trans a1, b1⟩
end Rows
section Ends
variable {p : Program} {l : Launch} {e : Env} {R : Room} {s : State} {m : MethodId} {args : Array Value} {below : List Frame} {meth : Method} {c : Code} {H : Heap} {locs : List Loc} {cells slots : Nat} {Q : State → Prop}
variable {mc ms : Nat} {free : Addr → Prop} {A0 A1 : Nat → Prop} {H0 : Heap} {a : Array Value} {ls : Array Slot} {st0 rest : List Value}
variable {Qc : Array Value → State → Outcome → State → Prop} {XC : String → Addr → State → State → Prop}
/-- what a body that may throw owes at its end -/
def vx_MQ (below : List Frame) (Qc : Array Value → State → Outcome → State → Prop) (XC : String → Addr → State → State → Prop) (a : Array Value) (s : State) (mc ms : Nat) (free : Addr → Prop) : State → Prop := fun t =>
  ∃ o, t.status = .running ∧ Ended t below o ∧ vx_Q Qc XC mc ms free a s o t
theorem vx_ret {g : JFrame} {mc ms : Nat} (k : W p l e R s m args below meth c H locs cells slots (MQ below Qc args s mc ms free) g) : W p l e R s m args below meth c H locs cells slots (vx_MQ below Qc XC args s mc ms free) g := by
  intro T hT X
  obtain ⟨t, a1, o, b1, b2, b3, b4⟩ := k T hT X
  exact ⟨t, a1, o, b1, b2, Or.inl ⟨b3, b4⟩⟩
/-- not caught here: it goes on to the caller -/
theorem vx_widen {g : JFrame} {q : Addr} {k n : Nat} (h1 : cells ≤ k) (h2 : slots ≤ n) (kk : vx_W p l e R s m args below meth c H locs k n Q g q) : vx_W p l e R s m args below meth c H locs cells slots Q g q := fun T hT X => kk T hT (stand_widen X h1 h2)
theorem vx_out {pc : Nat} {E : String} {ce : Cell} {q : Addr} {mc ms : Nat} (hout : ∀ x ∈ c.exceptionTable.toList, covers x pc = false) (hlocks : meth.locks = false) (hcell : H[q]? = some ce) (hv : ce.vm = .none) (hcl : s.vm.findClass E = some ce.cls)
    (hx : ∀ t : State, t.heap = H → s.vm.Alike t.vm → XC E q s t) (hf : ∀ z ∈ locs, free z.base) (hc : cells ≤ mc) (hs : slots ≤ ms) :
    vx_W p l e R s m args below meth c H locs cells slots (vx_MQ below Qc XC args s mc ms free) (F0 m pc ls rest) q := by
  intro T hT X
  obtain ⟨st1, hrun, hend, hW, hsm⟩ := X.leaveThrown q (g := F0 m pc ls rest) rfl rfl rfl hout hlocks
  have hcell9 : (T.setFrames (.throwing q :: below)).heap[q]? = some ce := by
    show T.heap[q]? = some ce
    rw [hT]; exact hcell
  exact ⟨_, st1, .threw q, hrun, hend, Or.inr ⟨q, rfl, E, ce, locs, hx _ hT hW.alike, hcell9, hv, hcl, hW, hsm.mono hc hs, hf⟩⟩
theorem vx_frame {U : State} {k n : Nat} (h : s.sameButNew ({ U with vm := s.vm } : State) locs k n) : s.heap.size ≤ U.heap.size ∧ ∀ q : Nat, q < s.heap.size → (∀ z ∈ locs, z.base ≠ q) → U.heap[q]? = s.heap[q]? := by
  obtain ⟨-, h2, -, -, -, h6⟩ := h
  refine ⟨h2, fun q hq hz => ?_⟩
  obtain ⟨c9, e1, e2, e3, e4⟩ := h6 q _ (Array.getElem?_eq_getElem hq)
  have hs : c9.slots = (s.heap[q]).slots := Array.ext_getElem? fun i => e4 i fun hm => hz _ hm rfl
  have h9 : c9 = s.heap[q] := by
    rw [hs] at e2
    exact e2
  have e5 : U.heap[q]? = some c9 := e1
  rw [e5, h9, Array.getElem?_eq_getElem hq]
/-- the words of a throw but the four that speak of the heap -/
def vx_no (w : Cond) : Bool := decide (w ≠ .isRef (.static Bundle.tN "UNASSIGNED_STACK" Bundle.steD)) && decide (w ≠ .isRef (.static Bundle.tN "SUPPRESSED_SENTINEL" Bundle.listD)) && decide (w ≠ .laysStatic Bundle.tN "UNASSIGNED_STACK" Bundle.steD) && decide (w ≠ .laysStatic Bundle.tN "SUPPRESSED_SENTINEL" Bundle.listD)
def vx_at0 (own : String) (ic : Nat) (X : String) (names : List String) : List Cond := (Bundle.ownAtoms0 own ic X names).filter vx_no
def vx_atS (own : String) (ic : Nat) (X : String) (names : List String) : List Cond := (Bundle.ownAtoms own ic X names).filter vx_no
/-- a word that the tables alone decide, or a good one -/
def vx_ot (w : Cond) : Bool := w.onTables || goodWord w
theorem vx_ot_at {args a' : Array Value} {s U : State} {w : Cond} (hW : s.WarmedH U.vm) (hvm : s.vm = U.vm) (hg : vx_ot w = true) (h : w.before args s = true) : w.before a' U = true := by
  simp only [vx_ot, Bool.or_eq_true] at hg
  rcases hg with hg | hg
  · exact va_tabs hg hvm h
  · exact word_at hW (good_of_word hg) h
/-- a list's words: the good ones out of the method's own list, the others by premises of their own -/
theorem vx_hat {args : Array Value} {s : State} {L B : List Cond} (h1 : ∀ w ∈ L.filter goodWord, w.before args s = true) (h2 : ∀ w ∈ L.filter (fun w => !goodWord w), w ∈ B) (h3 : ∀ w ∈ B, w.before args s = true) : ∀ w ∈ L, w.before args s = true := by
  intro w hw
  by_cases g : goodWord w = true
  · exact h1 w (List.mem_filter.mpr ⟨hw, g⟩)
  · refine h3 w (h2 w (List.mem_filter.mpr ⟨hw, ?_⟩))
    show (!goodWord w) = true
    cases hgw : goodWord w
    · rfl
    · exact absurd hgw g
theorem vx_c {args : Array Value} {s : State} {w : Cond} {B : List Cond} (h : w.before args s = true) (t : ∀ w ∈ B, w.before args s = true) : ∀ w' ∈ w :: B, w'.before args s = true := fun w' h' => (List.mem_cons.mp h').elim (fun e => by rw [e]; exact h) (t w')
theorem vx_n {args : Array Value} {s : State} : ∀ w ∈ ([] : List Cond), w.before args s = true := fun _ h => nomatch h
theorem vx_own {args : Array Value} {s : State} {L : List Cond} (h1 : ∀ w ∈ L.filter vx_no, w.before args s = true)
    (hU : (Cond.isRef (.static Bundle.tN "UNASSIGNED_STACK" Bundle.steD)).before args s = true) (hN : (Cond.isRef (.static Bundle.tN "SUPPRESSED_SENTINEL" Bundle.listD)).before args s = true)
    (lU : (Cond.laysStatic Bundle.tN "UNASSIGNED_STACK" Bundle.steD).before args s = true) (lN : (Cond.laysStatic Bundle.tN "SUPPRESSED_SENTINEL" Bundle.listD).before args s = true) : ∀ w ∈ L, w.before args s = true := by
  intro w hw
  by_cases e1 : w = .isRef (.static Bundle.tN "UNASSIGNED_STACK" Bundle.steD)
  · rw [e1]; exact hU
  · by_cases e2 : w = .isRef (.static Bundle.tN "SUPPRESSED_SENTINEL" Bundle.listD)
    · rw [e2]; exact hN
    · by_cases e3 : w = .laysStatic Bundle.tN "UNASSIGNED_STACK" Bundle.steD
      · rw [e3]; exact lU
      · by_cases e4 : w = .laysStatic Bundle.tN "SUPPRESSED_SENTINEL" Bundle.listD
        · rw [e4]; exact lN
        · exact h1 w (List.mem_filter.mpr ⟨hw, by unfold vx_no; rw [decide_eq_true e1, decide_eq_true e2, decide_eq_true e3, decide_eq_true e4]; rfl⟩)
/-- where a static field lies, its class's statics cell in H -/
def vx_L (C n d : String) (A : Nat → Prop) (U : State) (H : Heap) : Prop := ∃ (c : ClassId) (k : Class) (i : Nat) (f : Field) (a : Nat) (cell : Cell), U.vm.findClass C = some c ∧ U.fieldFound? C n d = some (c, k, i, f) ∧ f.isStatic = true ∧ k.statics = some a ∧ H[a]? = some cell ∧ cell.vm.isStatics = true ∧ cell.cls = c ∧ f.slot < cell.slots.size ∧ k.staticTypes[f.slot]? = some f.type ∧ ¬ A a
theorem vx_L.moved {C n d : String} {A : Nat → Prop} {u U : State} {H : Heap} (hvm : u.vm.Alike U.vm) (h : vx_L C n d A u H) : vx_L C n d A U H := by
  obtain ⟨c, k, i, f, a, cell, h1, h2, h3, h4, h5, h6, h7, h8, h9, h10⟩ := h
  obtain ⟨k', hi', he⟩ := State.fieldFound?_setVm hvm h2
  exact ⟨c, k', i, f, a, cell, by rw [hvm.findClass]; exact h1, hi', h3, by rw [he]; exact h4, h5, h6, h7, h8, by rw [he]; exact h9, h10⟩
theorem vx_L.kept {C n d : String} {A : Nat → Prop} {U : State} {H H1 : Heap} (h : vx_L C n d A U H) (hq : ∀ a : Nat, a < H.size → ¬ A a → H1[a]? = H[a]?) : vx_L C n d A U H1 := by
  obtain ⟨c, k, i, f, a, cell, h1, h2, h3, h4, h5, h6, h7, h8, h9, h10⟩ := h
  exact ⟨c, k, i, f, a, cell, h1, h2, h3, h4, by rw [hq a (Array.getElem?_eq_some_iff.mp h5).1 h10]; exact h5, h6, h7, h8, h9, h10⟩
theorem vx_L.narrow {C n d : String} {A B : Nat → Prop} {U : State} {H : Heap} (h : vx_L C n d A U H) (hAB : ∀ q, B q → A q) : vx_L C n d B U H := by
  obtain ⟨c, k, i, f, a, cell, h1, h2, h3, h4, h5, h6, h7, h8, h9, h10⟩ := h
  exact ⟨c, k, i, f, a, cell, h1, h2, h3, h4, h5, h6, h7, h8, h9, fun z => h10 (hAB _ z)⟩
theorem vx_L.word {C n d : String} {A : Nat → Prop} {s : State} {args : Array Value} (h : vx_L C n d A s s.heap) : (Cond.laysStatic C n d).before args s = true := by
  obtain ⟨c, k, i, f, a, cell, h1, h2, h3, h4, h5, h6, h7, h8, h9, -⟩ := h
  show (Cond.laysStatic C n d).holds args s none s [] = true
  exact Cond.laysStatic_of h1 h2 h3 h4 h5 h6 h7 h8 h9
/-- .. and what it holds: null or some reference -/
def vx_Zq (C n d : String) (A : Nat → Prop) (U : State) (H : Heap) : Prop := va_Zq C n d A U H ∧ vx_L C n d A U H
theorem vx_Zq.moved {C n d : String} {A : Nat → Prop} {u U : State} {H : Heap} (hvm : u.vm.Alike U.vm) (h : vx_Zq C n d A u H) : vx_Zq C n d A U H := ⟨va_Zq.moved hvm h.1, vx_L.moved hvm h.2⟩
theorem vx_Zq.kept {C n d : String} {A : Nat → Prop} {U : State} {H H1 : Heap} (h : vx_Zq C n d A U H) (hq : ∀ a : Nat, a < H.size → ¬ A a → H1[a]? = H[a]?) : vx_Zq C n d A U H1 := ⟨va_Zq.kept h.1 hq, vx_L.kept h.2 hq⟩
theorem vx_Zq.narrow {C n d : String} {A B : Nat → Prop} {U : State} {H : Heap} (h : vx_Zq C n d A U H) (hAB : ∀ q, B q → A q) : vx_Zq C n d B U H := ⟨va_Zq.narrow h.1 hAB, vx_L.narrow h.2 hAB⟩
theorem vx_Zqof {args : Array Value} {s : State} {C n d : String} {A : Nat → Prop} (hl : (Cond.laysStatic C n d).before args s = true) (hini : (Cond.initialized C).before args s = true) (h : (Cond.isRef (.static C n d)).before args s = true) (hA : ∀ a : Nat, a < s.heap.size → ¬ A a) : vx_Zq C n d A s s.heap := by
  refine ⟨va_Zqof hl hini h hA, ?_⟩
  obtain ⟨c, k, i, f, a, cell, h1, h2, h3, h4, h5, h6, h7, h8, h9⟩ := Cond.laysStatic_spec hl
  exact ⟨c, k, i, f, a, cell, h1, h2, h3, h4, h5, h6, h7, h8, h9, hA a (Array.getElem?_eq_some_iff.mp h5).1⟩
theorem vx_isRef {C n d : String} {v : Value} {A : Nat → Prop} {s : State} {args : Array Value} (h : va_Z C n d v A s s.heap) (hv : v.isRef = true) : (Cond.isRef (.static C n d)).before args s = true := by
  obtain ⟨cf, kf, fi, f, a, cell, h1, h2, h3, h4, h5, h6, h7, -⟩ := h
  have he : (Term.static C n d).eval args s none [] s = some v := by
    simp [Term.eval, State.fieldNamed?, h1, h2, h4, h5, h6, h7]
  simp only [Cond.before, Cond.holds, Cond.value, he]
  cases v <;> simp_all [Value.isRef]
theorem vx_isRefq {C n d : String} {A : Nat → Prop} {s : State} {args : Array Value} (h : va_Zq C n d A s s.heap) : (Cond.isRef (.static C n d)).before args s = true := by
  rcases h with h | ⟨t, h⟩
  · exact vx_isRef h rfl
  · exact vx_isRef h rfl
/-- the same frame, seen from here: as if the method were called anew in this heap -/
theorem vx_rebase {T : State} (X : Stand p l e R s m args below meth c T locs cells slots) {R' : Room} (hf : R'.frames ≤ R.frames) (hl : R'.locals ≤ R.locals) (hc : cells + R'.cells ≤ R.cells) (hs : slots + R'.slots ≤ R.slots) :
    Stand p l e R' ((T.setVm s.vm).setFrames (.invoking m args :: below)) m args below meth c T [] 0 0 := by
  have htop : (T.setVm s.vm).topJava?.isSome := X.here.top
  have hF : ((T.setVm s.vm).setFrames (.invoking m args :: below)).frames = .invoking m args :: below := State.frames_setFrames _ (State.cur_lt_of_top htop)
  obtain ⟨g₀, hg0⟩ := Option.isSome_iff_exists.mp htop
  obtain ⟨r, hr⟩ := State.topJava?_eq_some.mp hg0
  have hl9 : e.platform.stackLimits (T.setVm s.vm).me = e.platform.stackLimits s.me := X.limits
  have hb9 : (T.setVm s.vm).me.stackBytes = s.me.stackBytes := X.bytes
  refine ⟨X.admits, X.cas, X.clock, hF, ?_, X.hears, X.method, X.code, X.here, X.tail, X.warmed, ?_, ?_, ?_⟩
  · have h := X.room
    have hU : ((T.setVm s.vm).setFrames (.invoking m args :: below)).localsInUse = s.localsInUse := by
      rw [State.localsInUse_invoking hF (meth := meth) (c := c) X.method X.code, State.localsInUse_invoking X.frames X.method X.code]
    simp only [State.hasRoom, Bool.and_eq_true, decide_eq_true_eq] at h ⊢
    obtain ⟨⟨⟨⟨h1, h2, h3, h4, h5, h6⟩, h7⟩, h8⟩, h9⟩ := h
    rw [X.frames, List.length_cons] at h2 h3
    have q1 := X.heapSize
    have q2 := X.used
    simp only [hF, hU, List.length_cons, State.stackLimits_setFrames, State.stackBytes_setFrames, hl9, hb9]
    refine ⟨⟨⟨⟨by omega, by omega, by omega, by omega, by omega, h6⟩, ?_⟩, ?_⟩, X.book⟩
    · show T.heap.size + R'.cells ≤ e.platform.maxCells
      omega
    · show T.slotsUsed + R'.slots ≤ e.platform.maxSlots
      omega
  · rw [State.stackLimits_setFrames]; rfl
  · rw [State.stackBytes_setFrames]; rfl
  · refine ⟨?_, Nat.le_refl _, Nat.le_refl _, ?_, ?_, fun a c9 h9 => ⟨c9, h9, rfl, rfl, fun _ _ => rfl⟩⟩
    · obtain ⟨t, ht, -⟩ := State.frames_cons hr
      show T.setVm s.vm = { ((T.setVm s.vm).setFrames (.invoking m args :: below)).setFrames (T.setVm s.vm).frames with heap := T.heap, slotsUsed := T.slotsUsed }
      rw [State.setFrames_setFrames, State.setFrames_self ht]
      rfl
    · show T.slotsUsed = T.slotsUsed + ((T.heap.toList.drop T.heap.size).map (·.slots.size)).sum
      rw [List.drop_eq_nil_of_le (Nat.le_of_eq Array.length_toList)]
      rfl
    · show ((T.heap.toList.drop T.heap.size).map (·.slots.size)).sum ≤ 0
      rw [List.drop_eq_nil_of_le (Nat.le_of_eq Array.length_toList)]
      exact Nat.le_refl _
/-- 'throw new E()': new; dup; invokespecial; athrow -/
theorem vx_throw0 {cc : ByteArray} {pc : Nat} (hexec : p.tables.exec = Jvm.exec) (hb : c.code = cc) (hl : l.stackTraces = false) {own cls : String} {names : List String} {ik ic mc ms : Nat} {A : Nat → Prop}
    (hown : s.vm.findClass own = some m.cls) (hcls : Bundle.fit cls = true) (hnames : ∀ n ∈ names, Bundle.fit n = true)
    (hk : (Cond.classLink own ik cls).before args s = true) (hini : (Cond.initialized cls).before args s = true) (hat : ∀ w ∈ vx_at0 own ic cls names, w.before args s = true)
    (hgood : ∀ w ∈ Cond.classLink own ik cls :: Cond.initialized cls :: vx_at0 own ic cls names, vx_ot w = true)
    (hU : vx_Zq Bundle.tN "UNASSIGNED_STACK" Bundle.steD A s s.heap) (hN : vx_Zq Bundle.tN "SUPPRESSED_SENTINEL" Bundle.listD A s s.heap) (hS : va_S A s.heap H locs) (hsize : ls.size = c.maxLocals)
    (d0 : decode cc pc = .ok (.new ik, 3)) (d3 : decode cc (pc + 3) = .ok (.dup, 1)) (d4 : decode cc (pc + 4) = .ok (.invokespecial ic, 3)) (d7 : decode cc (pc + 7) = .ok (.athrow, 1))
    (hout : ∀ x ∈ c.exceptionTable.toList, covers x (pc + 7) = false)
    (hRframes : names.length + 3 < R.frames) (hRlocals : (rest.map fun v => v.category).sum + (13 * (names.length + 1) + 42) ≤ R.locals) (hRcells : cells + 1 ≤ R.cells) (hRslots : slots + 6 ≤ R.slots) (hlocks : meth.locks = false)
    (hx : ∀ (q9 : Addr) (t : State), s.vm.Alike t.vm → H.size ≤ t.heap.size → (∀ q : Nat, q < H.size → t.heap[q]? = H[q]?) → XC cls q9 s t)
    (hf : ∀ z ∈ locs, free z.base) (hc : cells + 1 ≤ mc) (hs : slots + 6 ≤ ms) :
    W p l e R s m args below meth c H locs cells slots (vx_MQ below Qc XC args s mc ms free) (F0 m pc ls rest) := by
  intro T hT X
  have htr : e.platform.stackTraces = false := (show e.platform.stackTraces = l.stackTraces by rw [X.admits.platform]).trans hl
  have Y := vx_rebase X (R' := { frames := R.frames, locals := R.locals, cells := 1, slots := 6 }) (Nat.le_refl _) (Nat.le_refl _) hRcells hRslots
  obtain ⟨s', hA⟩ : ∃ z, z = (T.setVm s.vm).setFrames (.invoking m args :: below) := ⟨_, rfl⟩
  rw [← hA] at Y
  have hvm : s'.vm = s.vm := by rw [hA]; rfl
  have hhp : s'.heap = H := by rw [hA]; exact hT
  have hW0 : s.WarmedH s'.vm := by rw [hvm]; exact State.WarmedH.refl s
  have hat' : ∀ w ∈ vx_at0 own ic cls names, w.before args s' = true := fun w hw => vx_ot_at hW0 hvm.symm (hgood w (List.mem_cons_of_mem _ (List.mem_cons_of_mem _ hw))) (hat w hw)
  have hk' : (Cond.classLink own ik cls).before args s' = true := vx_ot_at hW0 hvm.symm (hgood _ List.mem_cons_self) hk
  have hini' : (Cond.initialized cls).before args s' = true := vx_ot_at hW0 hvm.symm (hgood _ (List.mem_cons_of_mem _ List.mem_cons_self)) hini
  have hU' : vx_Zq Bundle.tN "UNASSIGNED_STACK" Bundle.steD A s' s'.heap := by rw [hhp]; exact vx_Zq.moved hW0.alike (hU.kept hS.2.1)
  have hN' : vx_Zq Bundle.tN "SUPPRESSED_SENTINEL" Bundle.listD A s' s'.heap := by rw [hhp]; exact vx_Zq.moved hW0.alike (hN.kept hS.2.1)
  have h : ∀ w ∈ Bundle.ownAtoms0 own ic cls names, w.before args s' = true := vx_own hat' (vx_isRefq hU'.1) (vx_isRefq hN'.1) hU'.2.word hN'.2.word
  have hown' : s'.vm.findClass own = some m.cls := by rw [hvm]; exact hown
  have hins : (Cond.instantiable cls 6).before args s' = true := h _ (by simp [Bundle.ownAtoms0])
  obtain ⟨vm₁, cX, kX, hfX, hkX, -, -, X₁, st1⟩ := Y.newCold hexec (own := own) (C := cls) (index := ik) (n := 6) hown' hk' hins hini'
    (g := F0 m pc ls rest) rfl (by rw [hb]; exact d0) (Nat.le_refl _) (Nat.le_refl _)
  generalize hT1 : (T.setVm vm₁).pushCell { cls := cX, slots := kX.instanceTypes.map defaultValue, vm := .none } = T1 at X₁ st1
  have hcat : (Value.ref T.heap.size).category = 1 := rfl
  have hcellA : T1.heap[T.heap.size]? = some (freshCell cX kX) := by rw [← hT1]; exact State.heap_pushCell_size _ _
  have d3' : decode c.code (pc + 3) = .ok (.dup, 1) := by rw [hb]; exact d3
  obtain ⟨U, hsteps, hrun, hend, hW, hsame, ce, hce, hO⟩ := X₁.ctorThrow0 hexec htr (own := own) (cls := cls) (names := names) (ic := ic) hown' hcls hnames h (fun x hx => nomatch hx) hfX hkX hcellA (by rw [hhp, hT]; exact Nat.le_refl _)
    (g := { method := m, pc := pc + 4, locals := ls, stack := .ref T.heap.size :: .ref T.heap.size :: rest, locked := none }) rfl hsize rfl rfl (rest := rest) rfl
    (by rw [hb]; exact d4) (by rw [hb]; exact d7) hout hRframes (by simp only [List.map_cons, List.sum_cons, hcat]; omega) hlocks
  obtain ⟨f1, f2⟩ := vx_frame hsame
  rw [hhp] at f1 f2
  have hWs : s.WarmedH U.vm := State.WarmedH.trans hW0 hW
  have hcl : s.vm.findClass cls = some ce.cls := by
    have h9 := hO.cls
    rw [hvm] at h9
    exact h9
  have hall : s.sameButNew ({ U with vm := s.vm } : State) locs mc ms := by
    subst hA
    obtain ⟨e1, e2⟩ := hsame
    rw [State.setFrames_setFrames] at e1
    have h2 : (T.setVm s.vm).sameButNew ({ U with vm := s.vm } : State) [] (0 + 1) (0 + 6) := ⟨e1, e2⟩
    have h3 := X.same.trans h2
    rw [List.append_nil] at h3
    exact h3.mono hc hs
  refine ⟨U, ?_, .threw T.heap.size, hrun, hend, Or.inr ⟨T.heap.size, rfl, cls, ce, locs, hx _ U hWs.alike f1 (fun q hq => f2 q hq (fun z hz => nomatch hz)), hce, hO.vm, hcl, hWs, hall, hf⟩⟩
  refine st1 _ ?_
  show Steps p.tables e below (T1.setTop { method := m, pc := pc + 3, locals := ls, stack := .ref T.heap.size :: rest, locked := none }) _
  jvm_step X₁.here [X₁.here.top, hexec, d3', Value.category]
  exact hsteps
/-- 'throw new E("text")': new; dup; ldc; invokespecial; athrow -/
theorem vx_throwS {cc : ByteArray} {pc : Nat} (hexec : p.tables.exec = Jvm.exec) (hb : c.code = cc) (hl : l.stackTraces = false) {own cls text : String} {names : List String} {ik is ic mc ms sa : Nat} {A : Nat → Prop}
    (hown : s.vm.findClass own = some m.cls) (hcls : Bundle.fit cls = true) (hnames : ∀ n ∈ names, Bundle.fit n = true)
    (hk : (Cond.classLink own ik cls).before args s = true) (hini : (Cond.initialized cls).before args s = true) (hstr : vk_R own is text sa s) (hat : ∀ w ∈ vx_atS own ic cls names, w.before args s = true)
    (hgood : ∀ w ∈ Cond.classLink own ik cls :: Cond.initialized cls :: vx_atS own ic cls names, vx_ot w = true)
    (hU : vx_Zq Bundle.tN "UNASSIGNED_STACK" Bundle.steD A s s.heap) (hN : vx_Zq Bundle.tN "SUPPRESSED_SENTINEL" Bundle.listD A s s.heap) (hS : va_S A s.heap H locs) (hsize : ls.size = c.maxLocals)
    (d0 : decode cc pc = .ok (.new ik, 3)) (d3 : decode cc (pc + 3) = .ok (.dup, 1)) (d4 : decode cc (pc + 4) = .ok (.ldc is, 2)) (d6 : decode cc (pc + 6) = .ok (.invokespecial ic, 3)) (d9 : decode cc (pc + 9) = .ok (.athrow, 1))
    (hout : ∀ x ∈ c.exceptionTable.toList, covers x (pc + 9) = false)
    (hRframes : names.length + 3 < R.frames) (hRlocals : (rest.map fun v => v.category).sum + (13 * (names.length + 1) + 43) ≤ R.locals) (hRcells : cells + 1 ≤ R.cells) (hRslots : slots + 6 ≤ R.slots) (hlocks : meth.locks = false)
    (hx : ∀ (q9 : Addr) (t : State), s.vm.Alike t.vm → H.size ≤ t.heap.size → (∀ q : Nat, q < H.size → t.heap[q]? = H[q]?) → XC cls q9 s t)
    (hf : ∀ z ∈ locs, free z.base) (hc : cells + 1 ≤ mc) (hs : slots + 6 ≤ ms) :
    W p l e R s m args below meth c H locs cells slots (vx_MQ below Qc XC args s mc ms free) (F0 m pc ls rest) := by
  intro T hT X
  have htr : e.platform.stackTraces = false := (show e.platform.stackTraces = l.stackTraces by rw [X.admits.platform]).trans hl
  have Y := vx_rebase X (R' := { frames := R.frames, locals := R.locals, cells := 1, slots := 6 }) (Nat.le_refl _) (Nat.le_refl _) hRcells hRslots
  obtain ⟨s', hA⟩ : ∃ z, z = (T.setVm s.vm).setFrames (.invoking m args :: below) := ⟨_, rfl⟩
  rw [← hA] at Y
  have hvm : s'.vm = s.vm := by rw [hA]; rfl
  have hhp : s'.heap = H := by rw [hA]; exact hT
  have hW0 : s.WarmedH s'.vm := by rw [hvm]; exact State.WarmedH.refl s
  have hat' : ∀ w ∈ vx_atS own ic cls names, w.before args s' = true := fun w hw => vx_ot_at hW0 hvm.symm (hgood w (List.mem_cons_of_mem _ (List.mem_cons_of_mem _ hw))) (hat w hw)
  have hk' : (Cond.classLink own ik cls).before args s' = true := vx_ot_at hW0 hvm.symm (hgood _ List.mem_cons_self) hk
  have hini' : (Cond.initialized cls).before args s' = true := vx_ot_at hW0 hvm.symm (hgood _ (List.mem_cons_of_mem _ List.mem_cons_self)) hini
  have hU' : vx_Zq Bundle.tN "UNASSIGNED_STACK" Bundle.steD A s' s'.heap := by rw [hhp]; exact vx_Zq.moved hW0.alike (hU.kept hS.2.1)
  have hN' : vx_Zq Bundle.tN "SUPPRESSED_SENTINEL" Bundle.listD A s' s'.heap := by rw [hhp]; exact vx_Zq.moved hW0.alike (hN.kept hS.2.1)
  have h : ∀ w ∈ Bundle.ownAtoms own ic cls names, w.before args s' = true := vx_own hat' (vx_isRefq hU'.1) (vx_isRefq hN'.1) hU'.2.word hN'.2.word
  have hown' : s'.vm.findClass own = some m.cls := by rw [hvm]; exact hown
  have hins : (Cond.instantiable cls 6).before args s' = true := h _ (by simp [Bundle.ownAtoms])
  obtain ⟨vm₁, cX, kX, hfX, hkX, -, -, X₁, st1⟩ := Y.newCold hexec (own := own) (C := cls) (index := ik) (n := 6) hown' hk' hins hini'
    (g := F0 m pc ls rest) rfl (by rw [hb]; exact d0) (Nat.le_refl _) (Nat.le_refl _)
  generalize hT1 : (T.setVm vm₁).pushCell { cls := cX, slots := kX.instanceTypes.map defaultValue, vm := .none } = T1 at X₁ st1
  have hcat : (Value.ref T.heap.size).category = 1 := rfl
  have hcellA : T1.heap[T.heap.size]? = some (freshCell cX kX) := by rw [← hT1]; exact State.heap_pushCell_size _ _
  have d3' : decode c.code (pc + 3) = .ok (.dup, 1) := by rw [hb]; exact d3
  have d4' : decode c.code (pc + 4) = .ok (.ldc is, 2) := by rw [hb]; exact d4
  have hstr' : vk_R own is text sa s' := vk_R.warm hW0 hstr
  obtain ⟨U, hsteps, hrun, hend, hW, hsame, ce, hce, hO⟩ := X₁.ctorThrowS hexec htr (own := own) (cls := cls) (names := names) (ic := ic) hown' hcls hnames h (fun x hx => nomatch hx) hfX hkX hcellA (by rw [hhp, hT]; exact Nat.le_refl _) (msg := .ref sa) rfl
    (g := { method := m, pc := pc + 6, locals := ls, stack := .ref sa :: .ref T.heap.size :: .ref T.heap.size :: rest, locked := none }) rfl hsize rfl rfl (rest := rest) rfl
    (by rw [hb]; exact d6) (by rw [hb]; exact d9) hout hRframes (by simp only [List.map_cons, List.sum_cons, hcat]; omega) hlocks
  obtain ⟨f1, f2⟩ := vx_frame hsame
  rw [hhp] at f1 f2
  have hWs : s.WarmedH U.vm := State.WarmedH.trans hW0 hW
  have hcl : s.vm.findClass cls = some ce.cls := by
    have h9 := hO.cls
    rw [hvm] at h9
    exact h9
  have hall : s.sameButNew ({ U with vm := s.vm } : State) locs mc ms := by
    subst hA
    obtain ⟨e1, e2⟩ := hsame
    rw [State.setFrames_setFrames] at e1
    have h2 : (T.setVm s.vm).sameButNew ({ U with vm := s.vm } : State) [] (0 + 1) (0 + 6) := ⟨e1, e2⟩
    have h3 := X.same.trans h2
    rw [List.append_nil] at h3
    exact h3.mono hc hs
  refine ⟨U, ?_, .threw T.heap.size, hrun, hend, Or.inr ⟨T.heap.size, rfl, cls, ce, locs, hx _ U hWs.alike f1 (fun q hq => f2 q hq (fun z hz => nomatch hz)), hce, hO.vm, hcl, hWs, hall, hf⟩⟩
  refine st1 _ ?_
  show Steps p.tables e below (T1.setTop { method := m, pc := pc + 3, locals := ls, stack := .ref T.heap.size :: rest, locked := none }) _
  jvm_step X₁.here [X₁.here.top, hexec, d3', Value.category]
  exact X₁.ldcString hexec (own := own) (text := text) (index := is) (a := sa) hown' hstr'.1 hstr'.2
    (g := { method := m, pc := pc + 4, locals := ls, stack := .ref T.heap.size :: .ref T.heap.size :: rest, locked := none }) rfl d4' _ hsteps
/-- 'throw new E("text")', the text by a wide index -/
theorem vx_throwSW {cc : ByteArray} {pc : Nat} (hexec : p.tables.exec = Jvm.exec) (hb : c.code = cc) (hl : l.stackTraces = false) {own cls text : String} {names : List String} {ik is ic mc ms sa : Nat} {A : Nat → Prop}
    (hown : s.vm.findClass own = some m.cls) (hcls : Bundle.fit cls = true) (hnames : ∀ n ∈ names, Bundle.fit n = true)
    (hk : (Cond.classLink own ik cls).before args s = true) (hini : (Cond.initialized cls).before args s = true) (hstr : vk_R own is text sa s) (hat : ∀ w ∈ vx_atS own ic cls names, w.before args s = true)
    (hgood : ∀ w ∈ Cond.classLink own ik cls :: Cond.initialized cls :: vx_atS own ic cls names, vx_ot w = true)
    (hU : vx_Zq Bundle.tN "UNASSIGNED_STACK" Bundle.steD A s s.heap) (hN : vx_Zq Bundle.tN "SUPPRESSED_SENTINEL" Bundle.listD A s s.heap) (hS : va_S A s.heap H locs) (hsize : ls.size = c.maxLocals)
    (d0 : decode cc pc = .ok (.new ik, 3)) (d3 : decode cc (pc + 3) = .ok (.dup, 1)) (d4 : decode cc (pc + 4) = .ok (.ldc_w is, 3)) (d7 : decode cc (pc + 7) = .ok (.invokespecial ic, 3)) (d10 : decode cc (pc + 10) = .ok (.athrow, 1))
    (hout : ∀ x ∈ c.exceptionTable.toList, covers x (pc + 10) = false)
    (hRframes : names.length + 3 < R.frames) (hRlocals : (rest.map fun v => v.category).sum + (13 * (names.length + 1) + 43) ≤ R.locals) (hRcells : cells + 1 ≤ R.cells) (hRslots : slots + 6 ≤ R.slots) (hlocks : meth.locks = false)
    (hx : ∀ (q9 : Addr) (t : State), s.vm.Alike t.vm → H.size ≤ t.heap.size → (∀ q : Nat, q < H.size → t.heap[q]? = H[q]?) → XC cls q9 s t)
    (hf : ∀ z ∈ locs, free z.base) (hc : cells + 1 ≤ mc) (hs : slots + 6 ≤ ms) :
    W p l e R s m args below meth c H locs cells slots (vx_MQ below Qc XC args s mc ms free) (F0 m pc ls rest) := by
  intro T hT X
  have htr : e.platform.stackTraces = false := (show e.platform.stackTraces = l.stackTraces by rw [X.admits.platform]).trans hl
  have Y := vx_rebase X (R' := { frames := R.frames, locals := R.locals, cells := 1, slots := 6 }) (Nat.le_refl _) (Nat.le_refl _) hRcells hRslots
  obtain ⟨s', hA⟩ : ∃ z, z = (T.setVm s.vm).setFrames (.invoking m args :: below) := ⟨_, rfl⟩
  rw [← hA] at Y
  have hvm : s'.vm = s.vm := by rw [hA]; rfl
  have hhp : s'.heap = H := by rw [hA]; exact hT
  have hW0 : s.WarmedH s'.vm := by rw [hvm]; exact State.WarmedH.refl s
  have hat' : ∀ w ∈ vx_atS own ic cls names, w.before args s' = true := fun w hw => vx_ot_at hW0 hvm.symm (hgood w (List.mem_cons_of_mem _ (List.mem_cons_of_mem _ hw))) (hat w hw)
  have hk' : (Cond.classLink own ik cls).before args s' = true := vx_ot_at hW0 hvm.symm (hgood _ List.mem_cons_self) hk
  have hini' : (Cond.initialized cls).before args s' = true := vx_ot_at hW0 hvm.symm (hgood _ (List.mem_cons_of_mem _ List.mem_cons_self)) hini
  have hU' : vx_Zq Bundle.tN "UNASSIGNED_STACK" Bundle.steD A s' s'.heap := by rw [hhp]; exact vx_Zq.moved hW0.alike (hU.kept hS.2.1)
  have hN' : vx_Zq Bundle.tN "SUPPRESSED_SENTINEL" Bundle.listD A s' s'.heap := by rw [hhp]; exact vx_Zq.moved hW0.alike (hN.kept hS.2.1)
  have h : ∀ w ∈ Bundle.ownAtoms own ic cls names, w.before args s' = true := vx_own hat' (vx_isRefq hU'.1) (vx_isRefq hN'.1) hU'.2.word hN'.2.word
  have hown' : s'.vm.findClass own = some m.cls := by rw [hvm]; exact hown
  have hins : (Cond.instantiable cls 6).before args s' = true := h _ (by simp [Bundle.ownAtoms])
  obtain ⟨vm₁, cX, kX, hfX, hkX, -, -, X₁, st1⟩ := Y.newCold hexec (own := own) (C := cls) (index := ik) (n := 6) hown' hk' hins hini'
    (g := F0 m pc ls rest) rfl (by rw [hb]; exact d0) (Nat.le_refl _) (Nat.le_refl _)
  generalize hT1 : (T.setVm vm₁).pushCell { cls := cX, slots := kX.instanceTypes.map defaultValue, vm := .none } = T1 at X₁ st1
  have hcat : (Value.ref T.heap.size).category = 1 := rfl
  have hcellA : T1.heap[T.heap.size]? = some (freshCell cX kX) := by rw [← hT1]; exact State.heap_pushCell_size _ _
  have d3' : decode c.code (pc + 3) = .ok (.dup, 1) := by rw [hb]; exact d3
  have d4' : decode c.code (pc + 4) = .ok (.ldc_w is, 3) := by rw [hb]; exact d4
  have hstr' : vk_R own is text sa s' := vk_R.warm hW0 hstr
  obtain ⟨U, hsteps, hrun, hend, hW, hsame, ce, hce, hO⟩ := X₁.ctorThrowS hexec htr (own := own) (cls := cls) (names := names) (ic := ic) hown' hcls hnames h (fun x hx => nomatch hx) hfX hkX hcellA (by rw [hhp, hT]; exact Nat.le_refl _) (msg := .ref sa) rfl
    (g := { method := m, pc := pc + 7, locals := ls, stack := .ref sa :: .ref T.heap.size :: .ref T.heap.size :: rest, locked := none }) rfl hsize rfl rfl (rest := rest) rfl
    (by rw [hb]; exact d7) (by rw [hb]; exact d10) hout hRframes (by simp only [List.map_cons, List.sum_cons, hcat]; omega) hlocks
  obtain ⟨f1, f2⟩ := vx_frame hsame
  rw [hhp] at f1 f2
  have hWs : s.WarmedH U.vm := State.WarmedH.trans hW0 hW
  have hcl : s.vm.findClass cls = some ce.cls := by
    have h9 := hO.cls
    rw [hvm] at h9
    exact h9
  have hall : s.sameButNew ({ U with vm := s.vm } : State) locs mc ms := by
    subst hA
    obtain ⟨e1, e2⟩ := hsame
    rw [State.setFrames_setFrames] at e1
    have h2 : (T.setVm s.vm).sameButNew ({ U with vm := s.vm } : State) [] (0 + 1) (0 + 6) := ⟨e1, e2⟩
    have h3 := X.same.trans h2
    rw [List.append_nil] at h3
    exact h3.mono hc hs
  refine ⟨U, ?_, .threw T.heap.size, hrun, hend, Or.inr ⟨T.heap.size, rfl, cls, ce, locs, hx _ U hWs.alike f1 (fun q hq => f2 q hq (fun z hz => nomatch hz)), hce, hO.vm, hcl, hWs, hall, hf⟩⟩
  refine st1 _ ?_
  show Steps p.tables e below (T1.setTop { method := m, pc := pc + 3, locals := ls, stack := .ref T.heap.size :: rest, locked := none }) _
  jvm_step X₁.here [X₁.here.top, hexec, d3', Value.category]
  exact X₁.ldcStringW hexec (own := own) (text := text) (index := is) (a := sa) hown' hstr'.1 hstr'.2
    (g := { method := m, pc := pc + 4, locals := ls, stack := .ref T.heap.size :: .ref T.heap.size :: rest, locked := none }) rfl d4' _ hsteps
end Ends
section Bodies
variable {l : Launch}
theorem vx_ofW {y : MethodName} {ws ws' : List Cond} {rm : Room} {Pc : Array Value → State → Prop} {Qc : Array Value → State → Outcome → State → Prop} {XC : String → Addr → State → State → Prop} {mc ms : Nat} {free : Addr → Prop} {cc : ByteArray} {maxL : Nat} {ret : Option FieldType}
    (hy : plainName y.cls = true) (hw : ws = Cond.code y cc maxL ret :: ws')
    (body : ∀ p e s m args below meth c s₁, BodyLoose p l y (headSpec ws rm) cc maxL ret e s m args below meth c s₁ → c.maxLocals = maxL → (∀ x ∈ c.exceptionTable.toList, False) → Pc args s →
      W p l e (headSpec ws rm).room s m args below meth c s.heap [] 0 0 (vx_MQ below Qc XC args s mc ms free) (entryFrame m args maxL)) : vx_Met l y ws rm Pc Qc XC mc ms free := by
  refine MetFree.of_bodyS (code := cc) (maxLocals := maxL) (ret := ret) hy ?_ ?_
  · intro args s m h hn
    obtain ⟨meth, c, h1, h2, h3, h4, h5, h6, -, -⟩ := Cond.code_spec hn (atoms_spec (ws := ws) h _ (by rw [hw]; exact List.mem_cons_self))
    exact ⟨meth, c, h1, h2, h3, h4, h5, h6⟩
  · intro p e s m args below meth c s₁ B hml hP _
    have hh0 : s₁.heap = s.heap := by rw [B.state]; rfl
    have ht : ∀ x ∈ c.exceptionTable.toList, False := by
      obtain ⟨meth9, c9, h1, h2, -, -, -, -, h7, -⟩ := Cond.code_spec B.named (atoms_spec (ws := ws) B.pre _ (by rw [hw]; exact List.mem_cons_self))
      cases Option.some.inj (h1.symm.trans B.method)
      cases Option.some.inj (h2.symm.trans (Stand.of_body B).code)
      intro x hx
      rw [Array.isEmpty_iff.mp h7] at hx
      cases hx
    obtain ⟨t, a1, o, b1, b2, b3⟩ := body p e s m args below meth c s₁ B hml ht hP s₁ hh0 (Stand.of_body B)
    exact ⟨t, o, a1, b1, b2, b3⟩
/-- the table of a body with handlers -/
theorem vx_table {p : Program} {x y : MethodName} {S : Spec} {cc bytes : ByteArray} {maxL maxL' : Nat} {ret ret' : Option FieldType} {e : Env} {s s₁ : State} {m : MethodId} {args : Array Value} {below : List Frame} {meth : Method} {c : Code} {hh : List (Nat × Nat × Nat × Nat)}
    (B : BodyLoose p l y S cc maxL ret e s m args below meth c s₁) (h : (Cond.codeWith y bytes maxL' ret' hh).before args s = true) : c.exceptionTable.toList = tableOf hh := by
  obtain ⟨m9, meth9, c9, hn9, h1, h2, -, -, h6, -⟩ := Cond.codeWith_spec h
  cases Option.some.inj (hn9.symm.trans B.named)
  cases Option.some.inj (h1.symm.trans B.method)
  cases Option.some.inj (h2.symm.trans (Stand.of_body B).code)
  rw [← h6, table_eq]
end Bodies
end VXA
/-! ===== END ===== -/
/-! ===== BEGIN a static call of a method with an exception table ===== -/
section VXS
variable {p : Program} {l : Launch} {e : Env} {R : Room} {s : State} {m : MethodId} {args : Array Value} {below : List Frame} {meth : Method} {c : Code} {T : State} {H : Heap} {locs : List Loc} {cells slots : Nat}
abbrev vx_CSW (R : Room) (s : State) (args : Array Value) (own : String) (index : Nat) (y : MethodName) (bytes : ByteArray) (maxL : Nat) (ret : Option FieldType) (hh : List (Nat × Nat × Nat × Nat)) (ws : List Cond) (rm : Room) (mc ms n : Nat) : Prop :=
  (rm.cells = mc ∧ rm.slots = ms ∧ rm.frames + 1 ≤ R.frames ∧ 8 + (maxL + 11) + rm.locals ≤ R.locals ∧ (∀ w ∈ ws, ∀ (a' : Array Value) (U : State), s.WarmedH U.vm → w.before a' U = true) ∧ Cond.codeWith y bytes maxL ret hh ∈ ws) ∧
  (Cond.codeWith y bytes maxL ret hh).before args s = true ∧ (Cond.initialized y.cls).before args s = true ∧ (y.cls ≠ "java/lang/invoke/MethodHandle" ∧ y.cls ≠ "java/lang/invoke/VarHandle") ∧
  (∀ sig, parseMethodDescriptor y.desc = some sig → n = sig.parameters.length) ∧ (Cond.methodLink own index y).before args s = true ∧ (Cond.static y).before args s = true
theorem vx_cwSW {own : String} {index maxL mc ms : Nat} {y : MethodName} {bytes : ByteArray} {ret : Option FieldType} {hh : List (Nat × Nat × Nat × Nat)} {Ts ws ws' : List Cond} {rm : Room} (n : Nat) (ht : ∀ w ∈ Ts, w.before args s = true) (hT : GoodIn Ts (va_wsS own index y ws)) (hw : ws = Cond.codeWith y bytes maxL ret hh :: ws') (hrc : rm.cells = mc) (hrs : rm.slots = ms)
    (hd : y.cls ≠ "java/lang/invoke/MethodHandle" ∧ y.cls ≠ "java/lang/invoke/VarHandle" ∧ (parseMethodDescriptor y.desc).map (fun d => d.parameters.length) = some n) (hR : rm.frames + 1 ≤ R.frames ∧ 8 + (maxL + 11) + rm.locals ≤ R.locals) :
    vx_CSW R s args own index y bytes maxL ret hh ws rm mc ms n := by
  have ok : ∀ w ∈ va_wsS own index y ws, w.before args s = true := fun w h => ht w (hT w h).1
  have hG : GoodIn Ts ws := fun w h => hT w (by unfold va_wsS; exact List.mem_append_right _ h)
  have hc : Cond.codeWith y bytes maxL ret hh ∈ ws := by rw [hw]; exact List.mem_cons_self
  refine ⟨⟨hrc, hrs, hR.1, hR.2, pay_in ht hG, hc⟩, ht _ (hG _ hc).1, ok _ (by simp [va_wsS]), ⟨hd.1, hd.2.1⟩, fun sig h => ?_, ok _ (by simp [va_wsS]), ok _ (by simp [va_wsS])⟩
  have h2 := hd.2.2
  rw [h] at h2
  exact (Option.some.inj h2).symm
theorem vx_callSW (X : Stand p l e R s m args below meth c T locs cells slots) (hexec : p.tables.exec = Jvm.exec) {own : String} {index : Nat} {y : MethodName} {bytes : ByteArray} {maxL : Nat} {ret : Option FieldType} {hh : List (Nat × Nat × Nat × Nat)}
    (hown : s.vm.findClass own = some m.cls) (hlink : (Cond.methodLink own index y).before args s = true) (hstat : (Cond.static y).before args s = true) (hinit : (Cond.initialized y.cls).before args s = true)
    (hcode : (Cond.codeWith y bytes maxL ret hh).before args s = true) (hy : y.cls ≠ "java/lang/invoke/MethodHandle" ∧ y.cls ≠ "java/lang/invoke/VarHandle")
    {W9 : Nat} {Pre : Pt → Array Value → Prop} {Post : Pt → Array Value → Option Value → Pt → Prop} (hK : Back l R p e below s args y 3 W9 Pre Post)
    {g : JFrame} (hg : g.method = m) (hsize : g.locals.size = c.maxLocals) {argsL rest : List Value} (hlen : ∀ sig, parseMethodDescriptor y.desc = some sig → argsL.length = sig.parameters.length)
    (hstack : g.stack = argsL.reverse ++ rest) (hW : 2 * g.monitorRoom + (rest.map fun v => v.category).sum ≤ W9) (hdg : decode c.code g.pc = .ok (.invokestatic index, 3))
    (hpre : ∀ vm₁, s.WarmedH vm₁ → Pre ⟨T.setVm vm₁, locs, cells, slots⟩ argsL.toArray) :
    ∃ (v : Option Value) (vm₁ : Vm) (B : Pt), s.WarmedH vm₁ ∧ Stand p l e R s m args below meth c B.U B.locs B.cells B.slots ∧ Post ⟨T.setVm vm₁, locs, cells, slots⟩ argsL.toArray v B ∧
      ∀ target, Steps p.tables e below (B.U.setTop { g with pc := g.pc + 3, stack := v.toList ++ rest }) target → Steps p.tables e below (T.setTop g) target := by
  obtain ⟨mk, methM, cM, hnamed, hmethM, -, -, -, -, -, -, hsigM⟩ := Cond.codeWith_spec hcode
  have hstatic : methM.isStatic = true := Cond.static_spec hnamed hmethM hstat
  obtain ⟨kP, hkP, -⟩ := className_of_methodNamed hnamed
  have hinitP : kP.init = .initialized := Cond.initialized_spec (findClass_of_methodNamed hnamed) hkP hinit
  obtain ⟨vm₁, X₁, hstep₁⟩ := X.invokestatic hexec hown hlink hnamed hmethM hstatic hkP hinitP hy (g := g) hg (argsL := argsL) (rest := rest) (hlen _ hsigM) hstack hdg
  obtain ⟨v, B, X', hpost, hsteps⟩ := hK m meth c ⟨T.setVm vm₁, locs, cells, slots⟩ { g with stack := rest } (.invokestatic index) mk argsL.toArray X₁ hg hsize hdg hW (X₁.named hnamed) (hpre vm₁ X₁.warmed)
  exact ⟨v, vm₁, B, X₁.warmed, X', hpost, fun target h => hstep₁ _ fun acts => by rw [doInvoke_state]; exact hsteps.trans h⟩
theorem vx_runSW {y : MethodName} {bytes cc : ByteArray} {maxL nL mc ms n index : Nat} {ret : Option FieldType} {hh : List (Nat × Nat × Nat × Nat)} {ws : List Cond} {rm : Room} {Pc : Array Value → State → Prop} {Qc : Array Value → State → Outcome → State → Prop} {free : Addr → Prop} {Ts : List Cond} {own : String} {As rest : List Value} {g : JFrame}
    (S : CallFix p m c cc nL s args Ts own) (hM : Met l y ws rm Pc Qc mc ms free) (cw : vx_CSW R s args own index y bytes maxL ret hh ws rm mc ms n) (hp : PreS s H Pc As)
    (hg : g.method = m) (hn : As.length = n) (hsize : g.locals.size = nL) (hstack : g.stack = As.reverse ++ rest) (hW : 2 * g.monitorRoom + (rest.map fun v => v.category).sum ≤ 8) (hdg : decode cc g.pc = .ok (.invokestatic index, 3)) (hf : cells + mc ≤ R.cells ∧ slots + ms ≤ R.slots) :
    va_Run p l e R s m args below meth c H locs cells slots mc ms g rest (Qc As.toArray) (free) := by
  obtain ⟨⟨hrc, hrs, hfr, hlo, hws, hcw⟩, hcode, hini, hy, hlen, hl, hstt⟩ := cw
  have hK : Back l R p e below s args y 3 8 (PreOf R mc ms Pc) (PostOf Qc mc ms free) := va_backW (hh := hh) (bytes := bytes) (maxL := maxL) (ret := ret) hM hp.1 hrc hrs hfr hlo hws hcw (fun a' U hW => word_at hW (Or.inl (by first | rfl | simp [Cond.onTables, Cond.keeps, Cond.steady])) hini)
  obtain ⟨hx, hb, hml, ho, -⟩ := S
  intro T hT X
  obtain ⟨v, vm₁, ⟨U', l2, c2, s2⟩, hW₁, X', ⟨g', mk, t, L, e1, e2, hq, h1, hL, h2, h3⟩, st⟩ := vx_callSW X hx (hh := hh) (bytes := bytes) (maxL := maxL) (ret := ret) ho hl hstt hini hcode hy hK hg (hsize.trans hml.symm) (argsL := As) (rest := rest) (fun sig h => hn.trans (hlen sig h)) hstack hW (by rw [hb]; exact hdg)
    (fun vm₁ hW₁ => ⟨hf.1, hf.2, hp.2 (T.setVm vm₁) hT hW₁⟩)
  dsimp only [Pt.U, Pt.locs, Pt.cells, Pt.slots] at X' e1 e2 h1 h2 h3 st
  subst h1; subst h2; subst h3
  exact ⟨v, (T.setVm vm₁).calling g' mk As.toArray, t, U', L, hT, X', hL, e1, e2, hq, st⟩
/-- a thing of a world lies in the heap -/
theorem vx_lt {D : va_G} {cl : List vw_C} {ws : va_W} {H1 : Heap} (h : va_P D cl ws H1) {k : Nat} {q : Nat × va_E} (hk : ws[k]? = some q) : q.1 < H1.size := (h k q hk).lt
end VXS
/-! ===== END ===== -/
/-! ===== BEGIN methods with a table of their own: called by a name, returning or throwing ===== -/
section VXH
/-! vx_backW, vx_callVX, vx_callSX, vx_callVW, vx_runVW, vx_runVX, vx_runSX, vx_ofWH follow the same proofs as their sisters above (Free/Laws.lean, Shelf42/LK1.lean); vx_outP calls Shelf42/NT130.lean (outThrough). -/
section
variable {l : Launch} {R : Room} {p : Program} {e : Env} {below : List Frame} {s : State} {sargs : Array Value} {y : MethodName} {len W9 : Nat}
theorem vx_backW {ws : List Cond} {rm : Room} {Pc : Array Value → State → Prop} {Qc : Array Value → State → Outcome → State → Prop} {XC : String → Addr → State → State → Prop} {mc ms : Nat} {free : Addr → Prop} {bytes : ByteArray} {maxL : Nat} {ret : Option FieldType} {hh : List (Nat × Nat × Nat × Nat)}
    (hM : vx_Met l y ws rm Pc Qc XC mc ms free) (hblind : FrameBlind Pc) (hrc : rm.cells = mc) (hrs : rm.slots = ms)
    (hframes : rm.frames + 1 ≤ R.frames) (hlocals : W9 + (maxL + 11) + rm.locals ≤ R.locals)
    (hws : ∀ w ∈ ws, ∀ a' U, s.WarmedH U.vm → w.before a' U = true) (hcode : Cond.codeWith y bytes maxL ret hh ∈ ws) (hinit : ∀ a' U, s.WarmedH U.vm → (Cond.initialized y.cls).before a' U = true) :
    vx_Back l R p e below s sargs y len W9 (PreOf R mc ms Pc) (PostOf Qc mc ms free) (vx_Post XC mc ms free) := by
  intro m meth c A g ig mk a X hg hsize hdg hW hn hp
  have h1 : (headSpec ws rm).pre.before a A.U = true := atoms_intro fun w hw => hws w hw _ _ X.warmed
  have h2 : (Cond.codeWith y bytes maxL ret hh).before a A.U = true := hws _ hcode _ _ X.warmed
  have h3 : (Cond.initialized y.cls).before a A.U = true := hinit _ _ X.warmed
  have h4 : A.cells + (headSpec ws rm).room.cells ≤ R.cells := by rw [show (headSpec ws rm).room.cells = mc from hrc]; exact hp.1
  have h5 : A.slots + (headSpec ws rm).room.slots ≤ R.slots := by rw [show (headSpec ws rm).room.slots = ms from hrs]; exact hp.2.1
  have hPc : Pc a (A.U.calling g mk a) := hblind _ _ _ _ hp.2.2
  obtain ⟨U, Ls, c0, s0⟩ := A
  dsimp only [Pt.U, Pt.locs, Pt.cells, Pt.slots] at h1 h2 h3 h4 h5 X hn hPc ⊢
  obtain ⟨m9, methY, cY, hn9, hmY, hcY, -, hlY, -⟩ := Cond.codeWith_spec h2
  cases Option.some.inj (hn9.symm.trans hn)
  obtain ⟨kY, hkY, -⟩ := className_of_methodNamed hn
  have hinitY : kY.init = .initialized := Cond.initialized_spec (findClass_of_methodNamed hn) hkY h3
  have h : At U g.method c below := by rw [hg]; exact X.here
  have hlocals9 : W9 + (maxL + 11) + (headSpec ws rm).room.locals ≤ R.locals := hlocals
  have happ : (headSpec ws rm).appliesLoose y e.platform (U.calling g mk a) = true :=
    Spec.appliesLoose_calling (g := g) h hdg hn hkY hinitY
      (X.room_calling (g := g) (R' := (headSpec ws rm).room) hsize hmY hcY hframes (by rw [hlY]; omega) h4 h5) h1
  obtain ⟨mid, hmid⟩ := h.above
  have hfr : (U.setTop g).frames = (.java g :: mid) ++ below := by rw [State.frames_setTop' g h.top, hmid]; rfl
  obtain ⟨o, s₂, hsteps, -, hend, hq⟩ := Steps.callFree hM p X.admits X.cas X.clock (acts := []) hfr happ hPc trivial
  have hq' : vx_Q Qc XC mc ms free a (U.calling g mk a) o s₂ := hq
  rw [State.frames_setTop' g h.top] at hend
  obtain ⟨g₀, hg0⟩ := Option.isSome_iff_exists.mp h.top
  obtain ⟨r, hr⟩ := State.topJava?_eq_some.mp hg0
  have hr' : (({ U with heap := s₂.heap, slotsUsed := s₂.slotsUsed } : State).setVm s₂.vm).frames = .java g₀ :: r := hr
  rcases hq' with ⟨hqc, L, hfe, hL⟩ | ⟨q, rfl, E, ce, L, hx, hce, hcv, hcl, hW₂, hsm, hL⟩
  · obtain ⟨⟨v, rfl⟩, hW₂, e2, q2, q3, q4, q5, q6⟩ := id hfe
    have e3 : s₂ = ({ (U.calling g mk a).setFrames s₂.frames with heap := s₂.heap, slotsUsed := s₂.slotsUsed } : State).setVm s₂.vm := by
      have : s₂ = ({ s₂ with vm := (U.calling g mk a).vm } : State).setVm s₂.vm := rfl
      rw [e2] at this
      exact this
    obtain ⟨c₂, i₂, len₂, hc₂, hd₂, hf₂⟩ := hend
    have hW' : U.WarmedH s₂.vm := hW₂
    have hcc : c₂ = c := by
      have h1 : s₂.code? g.method = U.code? g.method := by
        rw [State.code?_eq, State.code?_eq, hW'.alike.method?]
      exact Option.some.inj (hc₂.symm.trans (h1.trans h.code))
    subst hcc
    have hlen : len₂ = len := by rw [hdg] at hd₂; cases hd₂; rfl
    subst hlen
    have hs₂ : s₂ = (({ U with heap := s₂.heap, slotsUsed := s₂.slotsUsed } : State).setVm s₂.vm).setTop { g with pc := g.pc + len₂, stack := v.toList ++ g.stack } := by
      refine e3.trans ?_
      rw [hf₂, State.calling_eq h.top, State.setFrames_setFrames, State.setTop_of_frames _ hr', hr]
      rfl
    have hsame : U.sameButNew ({ U with heap := s₂.heap, slotsUsed := s₂.slotsUsed } : State) L mc ms := by
      refine ⟨?_, q2, q3, q4, q5, q6⟩
      obtain ⟨t, ht, -⟩ := State.frames_cons hr
      show ({ U with heap := s₂.heap, slotsUsed := s₂.slotsUsed } : State) = { U.setFrames U.frames with heap := s₂.heap, slotsUsed := s₂.slotsUsed }
      rw [State.setFrames_self ht]
    subst hg
    refine Or.inl ⟨v, ⟨(({ U with heap := s₂.heap, slotsUsed := s₂.slotsUsed } : State).setVm s₂.vm), Ls ++ L, c0 + mc, s0 + ms⟩,
      ⟨X.admits, X.cas, X.clock, X.frames, X.room, X.hears, X.method, X.code, (X.here.setHeapUsed s₂.heap s₂.slotsUsed).setVm hW'.alike, X.tail, State.WarmedH.trans X.warmed hW', X.limits, X.bytes, X.same.trans (hsame.setVm s.vm)⟩,
      ⟨g, mk, s₂, L, rfl, rfl, hqc, rfl, hL, rfl, rfl⟩, ?_⟩
    show Steps p.tables e below _ ((({ U with heap := s₂.heap, slotsUsed := s₂.slotsUsed } : State).setVm s₂.vm).setTop { g with pc := g.pc + len₂, stack := v.toList ++ g.stack })
    rw [← hs₂]
    exact hsteps
  · obtain ⟨e2, q2, q3, q4, q5, q6⟩ := id hsm
    have e3 : s₂ = ({ (U.calling g mk a).setFrames s₂.frames with heap := s₂.heap, slotsUsed := s₂.slotsUsed } : State).setVm s₂.vm := by
      have : s₂ = ({ s₂ with vm := (U.calling g mk a).vm } : State).setVm s₂.vm := rfl
      rw [e2] at this
      exact this
    have hf₂ : s₂.frames = .throwing q :: .java g :: U.frames.tail := hend
    have hW' : U.WarmedH s₂.vm := hW₂
    have hs₂ : s₂ = ((({ U with heap := s₂.heap, slotsUsed := s₂.slotsUsed } : State).setVm s₂.vm).setTop g).pushFrame (.throwing q) := by
      refine e3.trans ?_
      rw [hf₂, State.calling_eq h.top, State.setFrames_setFrames, State.pushFrame, State.frames_setTop _ hr', State.setTop_of_frames _ hr', State.setFrames_setFrames, hr]
      rfl
    have hsame : U.sameButNew ({ U with heap := s₂.heap, slotsUsed := s₂.slotsUsed } : State) L mc ms := by
      refine ⟨?_, q2, q3, q4, q5, q6⟩
      obtain ⟨t, ht, -⟩ := State.frames_cons hr
      show ({ U with heap := s₂.heap, slotsUsed := s₂.slotsUsed } : State) = { U.setFrames U.frames with heap := s₂.heap, slotsUsed := s₂.slotsUsed }
      rw [State.setFrames_self ht]
    subst hg
    refine Or.inr ⟨q, ⟨(({ U with heap := s₂.heap, slotsUsed := s₂.slotsUsed } : State).setVm s₂.vm), Ls ++ L, c0 + mc, s0 + ms⟩,
      ⟨X.admits, X.cas, X.clock, X.frames, X.room, X.hears, X.method, X.code, (X.here.setHeapUsed s₂.heap s₂.slotsUsed).setVm hW'.alike, X.tail, State.WarmedH.trans X.warmed hW', X.limits, X.bytes, X.same.trans (hsame.setVm s.vm)⟩,
      ⟨g, mk, s₂, L, E, ce, rfl, rfl, hx, hce, hcv, hcl, rfl, hL, rfl, rfl⟩, ?_⟩
    show Steps p.tables e below _ (((({ U with heap := s₂.heap, slotsUsed := s₂.slotsUsed } : State).setVm s₂.vm).setTop g).pushFrame (.throwing q))
    rw [← hs₂]
    exact hsteps
end
variable {p : Program} {l : Launch} {e : Env} {R : Room} {s : State} {m : MethodId} {args : Array Value} {below : List Frame} {meth : Method} {c : Code} {T : State} {H : Heap} {locs : List Loc} {cells slots : Nat}
theorem vx_callVX (X : Stand p l e R s m args below meth c T locs cells slots) (hexec : p.tables.exec = Jvm.exec) {own C : String} {index : Nat} {y : MethodName} {bytes : ByteArray} {maxL : Nat} {ret : Option FieldType} {hh : List (Nat × Nat × Nat × Nat)}
    (hown : s.vm.findClass own = some m.cls) (hlink : (Cond.methodLink own index y).before args s = true) (hinst : (Cond.instanceMethod y).before args s = true) (hsel : (Cond.selects C y y).before args s = true)
    (hcode : (Cond.codeWith y bytes maxL ret hh).before args s = true) (hy : y.cls ≠ "java/lang/invoke/MethodHandle" ∧ y.cls ≠ "java/lang/invoke/VarHandle")
    {W9 : Nat} {Pre : Pt → Array Value → Prop} {Post : Pt → Array Value → Option Value → Pt → Prop} {PostX : Pt → Array Value → Addr → Pt → Prop} (hK : vx_Back l R p e below s args y 3 W9 Pre Post PostX)
    {b : Addr} {cellB : Cell} (hcell : T.heap[b]? = some cellB) (hobj : cellB.vm.isStatics = false) (hcls : s.vm.findClass C = some cellB.cls)
    {g : JFrame} (hg : g.method = m) (hsize : g.locals.size = c.maxLocals) {argsL rest : List Value} (hlen : ∀ sig, parseMethodDescriptor y.desc = some sig → argsL.length = sig.parameters.length)
    (hstack : g.stack = argsL.reverse ++ .ref b :: rest) (hW : 2 * g.monitorRoom + (rest.map fun v => v.category).sum ≤ W9) (hdg : decode c.code g.pc = .ok (.invokevirtual index, 3))
    (hpre : ∀ vm₁, s.WarmedH vm₁ → Pre ⟨T.setVm vm₁, locs, cells, slots⟩ (Value.ref b :: argsL).toArray) :
    (∃ (v : Option Value) (vm₁ : Vm) (B : Pt), s.WarmedH vm₁ ∧ Stand p l e R s m args below meth c B.U B.locs B.cells B.slots ∧ Post ⟨T.setVm vm₁, locs, cells, slots⟩ (Value.ref b :: argsL).toArray v B ∧
      ∀ target, Steps p.tables e below (B.U.setTop { g with pc := g.pc + 3, stack := v.toList ++ rest }) target → Steps p.tables e below (T.setTop g) target) ∨
    (∃ (q : Addr) (vm₁ : Vm) (B : Pt), s.WarmedH vm₁ ∧ Stand p l e R s m args below meth c B.U B.locs B.cells B.slots ∧ PostX ⟨T.setVm vm₁, locs, cells, slots⟩ (Value.ref b :: argsL).toArray q B ∧
      Steps p.tables e below (T.setTop g) ((B.U.setTop { g with stack := rest }).pushFrame (.throwing q))) := by
  obtain ⟨mk, methM, hnamed, hmethM, hstM, habM⟩ := Cond.instanceMethod_spec hinst
  obtain ⟨m8, methM', cM, hn8, hmethM', -, -, -, -, -, -, hsigM⟩ := Cond.codeWith_spec hcode
  cases Option.some.inj (hn8.symm.trans hnamed)
  cases hmethM.symm.trans hmethM'
  obtain ⟨c2, r2, m2, q1, q2, q3, q4, kP, hkP, hkPi⟩ := Cond.selects_spec hsel
  cases hcls.symm.trans q1
  cases (State.methodFound?_of_named hnamed hy).symm.trans q2
  cases hnamed.symm.trans q3
  have hselP : selectMethod e.platform s.vm cellB.cls mk = .method mk := by rw [Launch.admits_selectMethod X.admits]; exact q4
  obtain ⟨vm₁, X₁, hstep₁⟩ := X.invokevirtual hexec hown hlink hnamed hmethM hstM hkP hkPi hy (a := b) (cell := cellB) hcell
    (fun z h => by rw [h] at hobj; cases hobj) hselP hmethM habM hkP hkPi (g := g) hg (argsL := argsL) (rest := rest) (hlen _ hsigM) hstack hdg
  rcases hK m meth c ⟨T.setVm vm₁, locs, cells, slots⟩ { g with stack := rest } (.invokevirtual index) mk (Value.ref b :: argsL).toArray X₁ hg hsize hdg hW (X₁.named hnamed) (hpre vm₁ X₁.warmed) with ⟨v, B, X', hpost, hsteps⟩ | ⟨q, B, X', hpost, hsteps⟩
  · exact Or.inl ⟨v, vm₁, B, X₁.warmed, X', hpost, fun target h => hstep₁ _ fun acts => by rw [doInvoke_state]; exact hsteps.trans h⟩
  · exact Or.inr ⟨q, vm₁, B, X₁.warmed, X', hpost, hstep₁ _ fun acts => by rw [doInvoke_state]; exact hsteps⟩
theorem vx_callSX (X : Stand p l e R s m args below meth c T locs cells slots) (hexec : p.tables.exec = Jvm.exec) {own : String} {index : Nat} {y : MethodName} {bytes : ByteArray} {maxL : Nat} {ret : Option FieldType} {hh : List (Nat × Nat × Nat × Nat)}
    (hown : s.vm.findClass own = some m.cls) (hlink : (Cond.methodLink own index y).before args s = true) (hstat : (Cond.static y).before args s = true) (hinit : (Cond.initialized y.cls).before args s = true)
    (hcode : (Cond.codeWith y bytes maxL ret hh).before args s = true) (hy : y.cls ≠ "java/lang/invoke/MethodHandle" ∧ y.cls ≠ "java/lang/invoke/VarHandle")
    {W9 : Nat} {Pre : Pt → Array Value → Prop} {Post : Pt → Array Value → Option Value → Pt → Prop} {PostX : Pt → Array Value → Addr → Pt → Prop} (hK : vx_Back l R p e below s args y 3 W9 Pre Post PostX)
    {g : JFrame} (hg : g.method = m) (hsize : g.locals.size = c.maxLocals) {argsL rest : List Value} (hlen : ∀ sig, parseMethodDescriptor y.desc = some sig → argsL.length = sig.parameters.length)
    (hstack : g.stack = argsL.reverse ++ rest) (hW : 2 * g.monitorRoom + (rest.map fun v => v.category).sum ≤ W9) (hdg : decode c.code g.pc = .ok (.invokestatic index, 3))
    (hpre : ∀ vm₁, s.WarmedH vm₁ → Pre ⟨T.setVm vm₁, locs, cells, slots⟩ argsL.toArray) :
    (∃ (v : Option Value) (vm₁ : Vm) (B : Pt), s.WarmedH vm₁ ∧ Stand p l e R s m args below meth c B.U B.locs B.cells B.slots ∧ Post ⟨T.setVm vm₁, locs, cells, slots⟩ argsL.toArray v B ∧
      ∀ target, Steps p.tables e below (B.U.setTop { g with pc := g.pc + 3, stack := v.toList ++ rest }) target → Steps p.tables e below (T.setTop g) target) ∨
    (∃ (q : Addr) (vm₁ : Vm) (B : Pt), s.WarmedH vm₁ ∧ Stand p l e R s m args below meth c B.U B.locs B.cells B.slots ∧ PostX ⟨T.setVm vm₁, locs, cells, slots⟩ argsL.toArray q B ∧
      Steps p.tables e below (T.setTop g) ((B.U.setTop { g with stack := rest }).pushFrame (.throwing q))) := by
  obtain ⟨mk, methM, cM, hnamed, hmethM, -, -, -, -, -, -, hsigM⟩ := Cond.codeWith_spec hcode
  have hstatic : methM.isStatic = true := Cond.static_spec hnamed hmethM hstat
  obtain ⟨kP, hkP, -⟩ := className_of_methodNamed hnamed
  have hinitP : kP.init = .initialized := Cond.initialized_spec (findClass_of_methodNamed hnamed) hkP hinit
  obtain ⟨vm₁, X₁, hstep₁⟩ := X.invokestatic hexec hown hlink hnamed hmethM hstatic hkP hinitP hy (g := g) hg (argsL := argsL) (rest := rest) (hlen _ hsigM) hstack hdg
  rcases hK m meth c ⟨T.setVm vm₁, locs, cells, slots⟩ { g with stack := rest } (.invokestatic index) mk argsL.toArray X₁ hg hsize hdg hW (X₁.named hnamed) (hpre vm₁ X₁.warmed) with ⟨v, B, X', hpost, hsteps⟩ | ⟨q, B, X', hpost, hsteps⟩
  · exact Or.inl ⟨v, vm₁, B, X₁.warmed, X', hpost, fun target h => hstep₁ _ fun acts => by rw [doInvoke_state]; exact hsteps.trans h⟩
  · exact Or.inr ⟨q, vm₁, B, X₁.warmed, X', hpost, hstep₁ _ fun acts => by rw [doInvoke_state]; exact hsteps⟩
theorem vx_callVW (X : Stand p l e R s m args below meth c T locs cells slots) (hexec : p.tables.exec = Jvm.exec) {own C : String} {index : Nat} {y : MethodName} {bytes : ByteArray} {maxL : Nat} {ret : Option FieldType} {hh : List (Nat × Nat × Nat × Nat)}
    (hown : s.vm.findClass own = some m.cls) (hlink : (Cond.methodLink own index y).before args s = true) (hinst : (Cond.instanceMethod y).before args s = true) (hsel : (Cond.selects C y y).before args s = true)
    (hcode : (Cond.codeWith y bytes maxL ret hh).before args s = true) (hy : y.cls ≠ "java/lang/invoke/MethodHandle" ∧ y.cls ≠ "java/lang/invoke/VarHandle")
    {W9 : Nat} {Pre : Pt → Array Value → Prop} {Post : Pt → Array Value → Option Value → Pt → Prop} (hK : Back l R p e below s args y 3 W9 Pre Post)
    {b : Addr} {cellB : Cell} (hcell : T.heap[b]? = some cellB) (hobj : cellB.vm.isStatics = false) (hcls : s.vm.findClass C = some cellB.cls)
    {g : JFrame} (hg : g.method = m) (hsize : g.locals.size = c.maxLocals) {argsL rest : List Value} (hlen : ∀ sig, parseMethodDescriptor y.desc = some sig → argsL.length = sig.parameters.length)
    (hstack : g.stack = argsL.reverse ++ .ref b :: rest) (hW : 2 * g.monitorRoom + (rest.map fun v => v.category).sum ≤ W9) (hdg : decode c.code g.pc = .ok (.invokevirtual index, 3))
    (hpre : ∀ vm₁, s.WarmedH vm₁ → Pre ⟨T.setVm vm₁, locs, cells, slots⟩ (Value.ref b :: argsL).toArray) :
    ∃ (v : Option Value) (vm₁ : Vm) (B : Pt), s.WarmedH vm₁ ∧ Stand p l e R s m args below meth c B.U B.locs B.cells B.slots ∧ Post ⟨T.setVm vm₁, locs, cells, slots⟩ (Value.ref b :: argsL).toArray v B ∧
      ∀ target, Steps p.tables e below (B.U.setTop { g with pc := g.pc + 3, stack := v.toList ++ rest }) target → Steps p.tables e below (T.setTop g) target := by
  obtain ⟨mk, methM, hnamed, hmethM, hstM, habM⟩ := Cond.instanceMethod_spec hinst
  obtain ⟨m8, methM', cM, hn8, hmethM', -, -, -, -, -, -, hsigM⟩ := Cond.codeWith_spec hcode
  cases Option.some.inj (hn8.symm.trans hnamed)
  cases hmethM.symm.trans hmethM'
  obtain ⟨c2, r2, m2, q1, q2, q3, q4, kP, hkP, hkPi⟩ := Cond.selects_spec hsel
  cases hcls.symm.trans q1
  cases (State.methodFound?_of_named hnamed hy).symm.trans q2
  cases hnamed.symm.trans q3
  have hselP : selectMethod e.platform s.vm cellB.cls mk = .method mk := by rw [Launch.admits_selectMethod X.admits]; exact q4
  obtain ⟨vm₁, X₁, hstep₁⟩ := X.invokevirtual hexec hown hlink hnamed hmethM hstM hkP hkPi hy (a := b) (cell := cellB) hcell
    (fun z h => by rw [h] at hobj; cases hobj) hselP hmethM habM hkP hkPi (g := g) hg (argsL := argsL) (rest := rest) (hlen _ hsigM) hstack hdg
  obtain ⟨v, B, X', hpost, hsteps⟩ := hK m meth c ⟨T.setVm vm₁, locs, cells, slots⟩ { g with stack := rest } (.invokevirtual index) mk (Value.ref b :: argsL).toArray X₁ hg hsize hdg hW (X₁.named hnamed) (hpre vm₁ X₁.warmed)
  exact ⟨v, vm₁, B, X₁.warmed, X', hpost, fun target h => hstep₁ _ fun acts => by rw [doInvoke_state]; exact hsteps.trans h⟩
abbrev vx_CVW (R : Room) (s : State) (args : Array Value) (own C : String) (index : Nat) (y : MethodName) (bytes : ByteArray) (maxL : Nat) (ret : Option FieldType) (hh : List (Nat × Nat × Nat × Nat)) (ws : List Cond) (rm : Room) (mc ms n : Nat) : Prop :=
  (rm.cells = mc ∧ rm.slots = ms ∧ rm.frames + 1 ≤ R.frames ∧ 8 + (maxL + 11) + rm.locals ≤ R.locals ∧ (∀ w ∈ ws, ∀ (a' : Array Value) (U : State), s.WarmedH U.vm → w.before a' U = true) ∧ Cond.codeWith y bytes maxL ret hh ∈ ws) ∧
  (Cond.codeWith y bytes maxL ret hh).before args s = true ∧ (Cond.initialized y.cls).before args s = true ∧ (y.cls ≠ "java/lang/invoke/MethodHandle" ∧ y.cls ≠ "java/lang/invoke/VarHandle") ∧
  (∀ sig, parseMethodDescriptor y.desc = some sig → n = sig.parameters.length) ∧ (Cond.methodLink own index y).before args s = true ∧ (Cond.instanceMethod y).before args s = true ∧ (Cond.selects C y y).before args s = true
theorem vx_cwVW {own C : String} {index maxL mc ms : Nat} {y : MethodName} {bytes : ByteArray} {ret : Option FieldType} {hh : List (Nat × Nat × Nat × Nat)} {Ts ws ws' : List Cond} {rm : Room} (n : Nat) (ht : ∀ w ∈ Ts, w.before args s = true) (hT : GoodIn Ts (wsV own index C y ws)) (hw : ws = Cond.codeWith y bytes maxL ret hh :: ws') (hrc : rm.cells = mc) (hrs : rm.slots = ms)
    (hd : y.cls = C ∧ y.cls ≠ "java/lang/invoke/MethodHandle" ∧ y.cls ≠ "java/lang/invoke/VarHandle" ∧ (parseMethodDescriptor y.desc).map (fun d => d.parameters.length) = some n) (hR : rm.frames + 1 ≤ R.frames ∧ 8 + (maxL + 11) + rm.locals ≤ R.locals) :
    vx_CVW R s args own C index y bytes maxL ret hh ws rm mc ms n := by
  obtain ⟨hC, hd⟩ := hd
  subst hC
  have ok : ∀ w ∈ wsV own index y.cls y ws, w.before args s = true := fun w h => ht w (hT w h).1
  have hG : GoodIn Ts ws := fun w h => hT w (by unfold wsV; exact List.mem_append_right _ h)
  have hc : Cond.codeWith y bytes maxL ret hh ∈ ws := by rw [hw]; exact List.mem_cons_self
  refine ⟨⟨hrc, hrs, hR.1, hR.2, pay_in ht hG, hc⟩, ht _ (hG _ hc).1, ok _ (by simp [wsV]), ⟨hd.1, hd.2.1⟩, fun sig h => ?_, ok _ (by simp [wsV]), ok _ (by simp [wsV]), ok _ (by simp [wsV])⟩
  have h2 := hd.2.2
  rw [h] at h2
  exact (Option.some.inj h2).symm
theorem vx_runVW {y : MethodName} {bytes cc : ByteArray} {maxL nL mc ms n index : Nat} {ret : Option FieldType} {hh : List (Nat × Nat × Nat × Nat)} {ws : List Cond} {rm : Room} {Pc : Array Value → State → Prop} {Qc : Array Value → State → Outcome → State → Prop} {free : Addr → Prop} {Ts : List Cond} {own C : String} {b : Addr} {As rest : List Value} {g : JFrame}
    (S : CallFix p m c cc nL s args Ts own) (hM : Met l y ws rm Pc Qc mc ms free) (cw : vx_CVW R s args own C index y bytes maxL ret hh ws rm mc ms n) (hp : PreV s H C b Pc As)
    (hg : g.method = m) (hn : As.length = n) (hsize : g.locals.size = nL) (hstack : g.stack = As.reverse ++ .ref b :: rest) (hW : 2 * g.monitorRoom + (rest.map fun v => v.category).sum ≤ 8) (hdg : decode cc g.pc = .ok (.invokevirtual index, 3)) (hf : cells + mc ≤ R.cells ∧ slots + ms ≤ R.slots) :
    va_Run p l e R s m args below meth c H locs cells slots mc ms g rest (Qc (Value.ref b :: As).toArray) free := by
  obtain ⟨⟨hrc, hrs, hfr, hlo, hws, hcw⟩, hcode, hini, hy, hlen, hl, hin, hse⟩ := cw
  have hK : Back l R p e below s args y 3 8 (PreOf R mc ms Pc) (PostOf Qc mc ms free) := va_backW (hh := hh) (bytes := bytes) (maxL := maxL) (ret := ret) hM hp.1 hrc hrs hfr hlo hws hcw (fun a' U hW => word_at hW (Or.inl (by first | rfl | simp [Cond.onTables, Cond.keeps, Cond.steady])) hini)
  obtain ⟨hx, hb, hml, ho, -⟩ := S
  obtain ⟨-, ⟨cellB, hcB, hoB, hclB⟩, hPc⟩ := hp
  intro T hT X
  obtain ⟨v, vm₁, ⟨U', l2, c2, s2⟩, hW₁, X', ⟨g', mk, t, L, e1, e2, hq, h1, hL, h2, h3⟩, st⟩ := vx_callVW X hx (C := C) (hh := hh) (bytes := bytes) (maxL := maxL) (ret := ret) ho hl hin hse hcode hy hK (by rw [hT]; exact hcB) hoB hclB hg (hsize.trans hml.symm) (argsL := As) (rest := rest) (fun sig h => hn.trans (hlen sig h)) hstack hW (by rw [hb]; exact hdg)
    (fun vm₁ hW₁ => ⟨hf.1, hf.2, hPc (T.setVm vm₁) hT hW₁⟩)
  dsimp only [Pt.U, Pt.locs, Pt.cells, Pt.slots] at X' e1 e2 h1 h2 h3 st
  subst h1; subst h2; subst h3
  exact ⟨v, (T.setVm vm₁).calling g' mk (Value.ref b :: As).toArray, t, U', L, hT, X', hL, e1, e2, hq, st⟩
section
variable {y : MethodName} {bytes cc : ByteArray} {maxL nL mc ms n index : Nat} {ret : Option FieldType} {ws : List Cond} {rm : Room} {Pc : Array Value → State → Prop} {Qc : Array Value → State → Outcome → State → Prop} {XC : String → Addr → State → State → Prop} {free : Addr → Prop} {Ts : List Cond} {own C : String} {b : Addr} {As rest : List Value} {g : JFrame}
theorem vx_runVX {hh : List (Nat × Nat × Nat × Nat)} (S : CallFix p m c cc nL s args Ts own) (hM : vx_Met l y ws rm Pc Qc XC mc ms free) (cw : vx_CVW R s args own C index y bytes maxL ret hh ws rm mc ms n) (hp : PreV s H C b Pc As)
    (hg : g.method = m) (hn : As.length = n) (hsize : g.locals.size = nL) (hstack : g.stack = As.reverse ++ .ref b :: rest) (hW : 2 * g.monitorRoom + (rest.map fun v => v.category).sum ≤ 8) (hdg : decode cc g.pc = .ok (.invokevirtual index, 3)) (hf : cells + mc ≤ R.cells ∧ slots + ms ≤ R.slots) :
    vx_Run p l e R s m args below meth c H locs cells slots mc ms g rest (Qc (Value.ref b :: As).toArray) XC free := by
  obtain ⟨⟨hrc, hrs, hfr, hlo, hws, hcw⟩, hcode, hini, hy, hlen, hl, hin, hse⟩ := cw
  have hK : vx_Back l R p e below s args y 3 8 (PreOf R mc ms Pc) (PostOf Qc mc ms free) (vx_Post XC mc ms free) := vx_backW (hh := hh) (bytes := bytes) (maxL := maxL) (ret := ret) hM hp.1 hrc hrs hfr hlo hws hcw (fun a' U hW => word_at hW (Or.inl (by first | rfl | simp [Cond.onTables, Cond.keeps, Cond.steady])) hini)
  obtain ⟨hx, hb, hml, ho, -⟩ := S
  obtain ⟨-, ⟨cellB, hcB, hoB, hclB⟩, hPc⟩ := hp
  intro T hT X
  rcases vx_callVX X hx (C := C) (hh := hh) (bytes := bytes) (maxL := maxL) (ret := ret) ho hl hin hse hcode hy hK (by rw [hT]; exact hcB) hoB hclB hg (hsize.trans hml.symm) (argsL := As) (rest := rest) (fun sig h => hn.trans (hlen sig h)) hstack hW (by rw [hb]; exact hdg)
    (fun vm₁ hW₁ => ⟨hf.1, hf.2, hPc (T.setVm vm₁) hT hW₁⟩) with ⟨v, vm₁, ⟨U', l2, c2, s2⟩, hW₁, X', ⟨g', mk, t, L, e1, e2, hq, h1, hL, h2, h3⟩, st⟩ | ⟨q, vm₁, ⟨U', l2, c2, s2⟩, hW₁, X', ⟨g', mk, t, L, E, ce, e1, e2, hq, hce, hcv, hcl, h1, hL, h2, h3⟩, st⟩
  · dsimp only [Pt.U, Pt.locs, Pt.cells, Pt.slots] at X' e1 e2 h1 h2 h3 st
    subst h1; subst h2; subst h3
    exact Or.inl ⟨v, (T.setVm vm₁).calling g' mk (Value.ref b :: As).toArray, t, U', L, hT, X', hL, e1, e2, hq, st⟩
  · dsimp only [Pt.U, Pt.locs, Pt.cells, Pt.slots] at X' e1 e2 h1 h2 h3 st hcl
    subst h1; subst h2; subst h3
    exact Or.inr ⟨q, (T.setVm vm₁).calling g' mk (Value.ref b :: As).toArray, t, U', L, E, ce, hT, X', hL, e1, e2, hq, hce, hcv, vx_cls hW₁ hcl, st⟩
theorem vx_runSX {hh : List (Nat × Nat × Nat × Nat)} (S : CallFix p m c cc nL s args Ts own) (hM : vx_Met l y ws rm Pc Qc XC mc ms free) (cw : vx_CSW R s args own index y bytes maxL ret hh ws rm mc ms n) (hp : PreS s H Pc As)
    (hg : g.method = m) (hn : As.length = n) (hsize : g.locals.size = nL) (hstack : g.stack = As.reverse ++ rest) (hW : 2 * g.monitorRoom + (rest.map fun v => v.category).sum ≤ 8) (hdg : decode cc g.pc = .ok (.invokestatic index, 3)) (hf : cells + mc ≤ R.cells ∧ slots + ms ≤ R.slots) :
    vx_Run p l e R s m args below meth c H locs cells slots mc ms g rest (Qc As.toArray) XC free := by
  obtain ⟨⟨hrc, hrs, hfr, hlo, hws, hcw⟩, hcode, hini, hy, hlen, hl, hstt⟩ := cw
  have hK : vx_Back l R p e below s args y 3 8 (PreOf R mc ms Pc) (PostOf Qc mc ms free) (vx_Post XC mc ms free) := vx_backW (hh := hh) (bytes := bytes) (maxL := maxL) (ret := ret) hM hp.1 hrc hrs hfr hlo hws hcw (fun a' U hW => word_at hW (Or.inl (by first | rfl | simp [Cond.onTables, Cond.keeps, Cond.steady])) hini)
  obtain ⟨hx, hb, hml, ho, -⟩ := S
  intro T hT X
  rcases vx_callSX X hx (hh := hh) (bytes := bytes) (maxL := maxL) (ret := ret) ho hl hstt hini hcode hy hK hg (hsize.trans hml.symm) (argsL := As) (rest := rest) (fun sig h => hn.trans (hlen sig h)) hstack hW (by rw [hb]; exact hdg)
    (fun vm₁ hW₁ => ⟨hf.1, hf.2, hp.2 (T.setVm vm₁) hT hW₁⟩) with ⟨v, vm₁, ⟨U', l2, c2, s2⟩, hW₁, X', ⟨g', mk, t, L, e1, e2, hq, h1, hL, h2, h3⟩, st⟩ | ⟨q, vm₁, ⟨U', l2, c2, s2⟩, hW₁, X', ⟨g', mk, t, L, E, ce, e1, e2, hq, hce, hcv, hcl, h1, hL, h2, h3⟩, st⟩
  · dsimp only [Pt.U, Pt.locs, Pt.cells, Pt.slots] at X' e1 e2 h1 h2 h3 st
    subst h1; subst h2; subst h3
    exact Or.inl ⟨v, (T.setVm vm₁).calling g' mk As.toArray, t, U', L, hT, X', hL, e1, e2, hq, st⟩
  · dsimp only [Pt.U, Pt.locs, Pt.cells, Pt.slots] at X' e1 e2 h1 h2 h3 st hcl
    subst h1; subst h2; subst h3
    exact Or.inr ⟨q, (T.setVm vm₁).calling g' mk As.toArray, t, U', L, E, ce, hT, X', hL, e1, e2, hq, hce, hcv, vx_cls hW₁ hcl, st⟩
end
end VXH
theorem vx_ofWH {l : Launch} {y : MethodName} {ws ws' : List Cond} {rm : Room} {Pc : Array Value → State → Prop} {Qc : Array Value → State → Outcome → State → Prop} {XC : String → Addr → State → State → Prop} {mc ms : Nat} {free : Addr → Prop} {cc : ByteArray} {maxL : Nat} {ret : Option FieldType} {hh : List (Nat × Nat × Nat × Nat)}
    (hy : plainName y.cls = true) (hw : ws = Cond.codeWith y cc maxL ret hh :: ws')
    (body : ∀ p e s m args below meth c s₁, BodyLoose p l y (headSpec ws rm) cc maxL ret e s m args below meth c s₁ → c.maxLocals = maxL → Pc args s →
      W p l e (headSpec ws rm).room s m args below meth c s.heap [] 0 0 (vx_MQ below Qc XC args s mc ms free) (entryFrame m args maxL)) : vx_Met l y ws rm Pc Qc XC mc ms free := by
  refine MetFree.of_bodyS (code := cc) (maxLocals := maxL) (ret := ret) hy ?_ ?_
  · intro args s m h hn
    obtain ⟨m9, meth, c, hn9, h1, h2, h3, h4, -, h5, h6, -⟩ := Cond.codeWith_spec (atoms_spec (ws := ws) h _ (by rw [hw]; exact List.mem_cons_self))
    cases hn.symm.trans hn9
    exact ⟨meth, c, h1, h2, h3, h4, h5, h6⟩
  · intro p e s m args below meth c s₁ B hml hP _
    have hh0 : s₁.heap = s.heap := by rw [B.state]; rfl
    obtain ⟨t, a1, o, b1, b2, b3⟩ := body p e s m args below meth c s₁ B hml hP s₁ hh0 (Stand.of_body B)
    exact ⟨t, o, a1, b1, b2, b3⟩
/-! ===== END ===== -/
end
section
/-! a throw of an object that was made elsewhere; new arrays of arrays that nobody looks into -/
section VYB
variable {p : Program} {l : Launch} {e : Env} {R : Room} {s : State} {m : MethodId} {args : Array Value} {below : List Frame} {meth : Method} {c : Code} {H : Heap} {locs : List Loc} {cells slots : Nat} {Q : State → Prop}
variable {free : Addr → Prop} {ls : Array Slot} {rest : List Value} {Qc : Array Value → State → Outcome → State → Prop} {XC : String → Addr → State → State → Prop}
theorem vy_athrow {cc : ByteArray} {pc : Nat} (hexec : p.tables.exec = Jvm.exec) (hb : c.code = cc) {E : String} {ce : Cell} {q : Addr} {mc ms : Nat} (hout : ∀ x ∈ c.exceptionTable.toList, covers x pc = false) (hlocks : meth.locks = false)
    (hcell : H[q]? = some ce) (hv : ce.vm = .none) (hcl : s.vm.findClass E = some ce.cls) (hx : ∀ t : State, t.heap = H → s.vm.Alike t.vm → XC E q s t) (hf : ∀ z ∈ locs, free z.base) (hc : cells ≤ mc) (hs : slots ≤ ms)
    (hdg : decode cc pc = .ok (.athrow, 1)) : W p l e R s m args below meth c H locs cells slots (vx_MQ below Qc XC args s mc ms free) (F0 m pc ls (.ref q :: rest)) := by
  intro T hT X
  obtain ⟨st1, hrun, hend, hW, hsm⟩ := X.athrowLeaves hexec (g := F0 m pc ls (.ref q :: rest)) rfl rfl rfl hout (a := q) (rest := rest) rfl (by rw [hb]; exact hdg) hlocks
  have h9 : (T.setFrames (.throwing q :: below)).heap[q]? = some ce := by
    show T.heap[q]? = some ce
    rw [hT]; exact hcell
  exact ⟨_, st1, .threw q, hrun, hend, Or.inr ⟨q, rfl, E, ce, locs, hx _ hT hW.alike, h9, hv, hcl, hW, hsm.mono hc hs, hf⟩⟩
/-- a cell of a world: its kind by name -/
theorem vy_cell {D : va_G} {cl : List vw_C} {ws : va_W} {tys : List (ClassId × FieldType)} (hK : va_K D cl tys s) (hP : va_P D cl ws H) {k ci : Nat} {a : Nat} {fs : List Value} (hk : ws[k]? = some (a, .inr (ci, fs))) {C : String} {T : u_T} {N : Nat} (hc : cl[ci]? = some (C, T, N)) :
    ∃ ce : Cell, H[a]? = some ce ∧ ce.vm = .none ∧ s.vm.findClass C = some ce.cls := by
  obtain ⟨q', h1, cell, g1, g2, g3, -⟩ := hP k _ hk
  exact ⟨cell, g1, g3, by rw [g2]; exact (hK.1 ci _ hc).2.1⟩
def vy_AO (t : FieldType) (U : State) : Prop := (Cond.arrayOver (.array t)).before #[] U = true
theorem vy_anew {cc : ByteArray} {pc : Nat} {D : va_G} {cl : List vw_C} {A : Nat → Prop} {ws : va_W} {H0 : Heap} (hexec : p.tables.exec = Jvm.exec) (hb : c.code = cc) {own : String} {index : Nat} {t : FieldType} (hown : s.vm.findClass own = some m.cls) (hclink : (Cond.classLink own index (FieldType.array t).toString).before args s = true) (hover : vy_AO t s)
    (hP : va_P D cl ws H) (hD : va_D A ws) (hS : va_S A H0 H locs) {n : Int32} {N' : Nat} (hn : ¬ n < 0) (hN : n.toNatClampNeg = N') (hbytes : N' * 4 ≤ 536870912) (hcells : cells + 1 ≤ R.cells) (hslots : slots + N' ≤ R.slots) (hdg : decode cc pc = .ok (.anewarray index, 3))
    (kk : ∀ (q : Nat) (H1 : Heap), va_P D cl ws H1 → va_S A H0 H1 locs → W p l e R s m args below meth c H1 locs (cells + 1) (slots + N') Q (F0 m (pc + 3) ls (.ref q :: rest))) : W p l e R s m args below meth c H locs cells slots Q (F0 m pc ls (.int n :: rest)) := by
  subst hN
  refine W.anewA hexec hb hown hclink hover rfl hdg rfl hn hbytes hcells hslots fun cA kA comp f1 f2 f3 f4 => ?_
  generalize hH1 : H.push ({ cls := cA, slots := Array.replicate n.toNatClampNeg .null, vm := .none } : Cell) = H1
  have z1 : H1.size = H.size + 1 := by rw [← hH1, Array.size_push]
  have o1 : ∀ q : Nat, q < H.size → H1[q]? = H[q]? := fun q hq => by rw [← hH1, Array.getElem?_push, if_neg (Nat.ne_of_lt hq)]
  exact kk H.size H1 (hP.kept fun k x hx => o1 x.1 ((hP k x hx).lt)) ⟨Nat.le_trans hS.1 (by omega), fun x h1 h2 => (o1 x (Nat.lt_of_lt_of_le h1 hS.1)).trans (hS.2.1 x h1 h2), hS.2.2⟩
end VYB
theorem vy_AO.moved {t : FieldType} {u U : State} (hvm : u.vm.Alike U.vm) (h : vy_AO t u) : vy_AO t U := by
  obtain ⟨comp, c, k, h1, h2, h3, h4, h5⟩ := arrayOverA_spec h
  obtain ⟨k', hk', he⟩ := hvm.2.2 _ _ h3
  have hi : (U.vm.classes.findIdx? fun (x : Class) => match x.kind with | .array component _ => component == comp | _ => false) = some c := by
    have e1 := va_idx_bare U.vm comp
    have e2 := va_idx_bare u.vm comp
    have hb : U.vm.bare = u.vm.bare := by first | exact hvm.bare_eq | exact hvm.bare_eq.symm
    rw [hb] at e1
    exact e1.symm.trans (e2.trans h2)
  have hkind : k'.kind = .array comp (.array t) := by rw [he]; exact h4
  have f1 : U.vm.findClass (FieldType.array t).toString = some comp := by rw [hvm.findClass]; exact h1
  have f2 : U.vm.findClass ("[" ++ (FieldType.array t).toString) = some c := by rw [hvm.findClass]; exact h5
  unfold vy_AO Cond.before Cond.holds
  simp only [Cond.value]
  rw [f1, Option.bind_some]
  refine (congrArg (fun o : Option Nat => (o.bind (fun c => (U.vm.classes[c]?).map fun (k : Class) => match k.kind with | .array _ ty => decide (ty = FieldType.array t) && decide (U.vm.findClass ("[" ++ (FieldType.array t).toString) = some c) | _ => false) == some true)) hi).trans ?_
  simp [hk', hkind, f2]
end
section
/-! ===== BEGIN words of one list among another's, by their places ===== -/
theorem goodIn_r {big : List Cond} (ws : List Cond) (ps : List Nat) (hp : ws = ps.filterMap (fun i => big[i]?)) (h : ws.all goodWord = true) : GoodIn big ws := by
  intro w hw
  have h1 := List.all_eq_true.mp h w hw
  rw [hp] at hw
  obtain ⟨i, -, hi⟩ := List.mem_filterMap.mp hw
  have hm : w ∈ big := by first | exact List.mem_of_getElem? hi | exact List.getElem?_mem hi
  exact ⟨hm, good_of_word h1⟩
theorem goodIn_app {big a b : List Cond} (ha : GoodIn big a) (hb : GoodIn big b) : GoodIn big (a ++ b) := fun w h => (List.mem_append.mp h).elim (ha w) (hb w)
theorem goodIn_ca {big a b : List Cond} {c : Cond} (ha : GoodIn big (c :: a)) (hb : GoodIn big b) : GoodIn big (c :: (a ++ b)) := fun w h => (List.mem_cons.mp h).elim (fun e => ha w (List.mem_cons.mpr (Or.inl e))) (fun h => (List.mem_append.mp h).elim (fun h => ha w (List.mem_cons.mpr (Or.inr h))) (hb w))
theorem goodIn_sub {big ws : List Cond} (hm : ∀ w ∈ ws, w ∈ big) (h : ws.all goodWord = true) : GoodIn big ws := fun w hw => ⟨hm w hw, good_of_word (List.all_eq_true.mp h w hw)⟩
/-! ===== END ===== -/
end
section
-- names, fields, word lists of the classes and methods that the rows speak of (out of the printed names of this claim)
def RX0 : String := "SsaForge$Code"
def TX0 : u_T := fun k => match k with
  | 0 => ("SsaForge$Code", "blocks", "I", false)
  | 1 => ("SsaForge$Code", "rows", "I", false)
  | 2 => ("SsaForge$Code", "phis", "I", false)
  | 3 => ("SsaForge$Code", "argCount", "I", false)
  | 4 => ("SsaForge$Code", "rowStart", "[I", true)
  | 5 => ("SsaForge$Code", "op", "[I", true)
  | 6 => ("SsaForge$Code", "target", "[I", true)
  | 7 => ("SsaForge$Code", "left", "[J", true)
  | 8 => ("SsaForge$Code", "right", "[J", true)
  | 9 => ("SsaForge$Code", "endKind", "[I", true)
  | 10 => ("SsaForge$Code", "endUse", "[J", true)
  | 11 => ("SsaForge$Code", "goalOne", "[I", true)
  | 12 => ("SsaForge$Code", "goalTwo", "[I", true)
  | 13 => ("SsaForge$Code", "predStart", "[I", true)
  | 14 => ("SsaForge$Code", "preds", "[I", true)
  | 15 => ("SsaForge$Code", "phiStart", "[I", true)
  | 16 => ("SsaForge$Code", "phiTarget", "[I", true)
  | 17 => ("SsaForge$Code", "argStart", "[I", true)
  | _ => ("SsaForge$Code", "args", "[J", false)
def tyX0 : Nat → FieldType := fun k => match k with
  | 0 => .int
  | 1 => .int
  | 2 => .int
  | 3 => .int
  | 4 => .array .int
  | 5 => .array .int
  | 6 => .array .int
  | 7 => .array .long
  | 8 => .array .long
  | 9 => .array .int
  | 10 => .array .long
  | 11 => .array .int
  | 12 => .array .int
  | 13 => .array .int
  | 14 => .array .int
  | 15 => .array .int
  | 16 => .array .int
  | 17 => .array .int
  | _ => .array .long
abbrev wsX00 : List Cond := u_ws RX0 TX0 19
theorem nmX0 : ∀ a, a < 19 → ∀ b, b < 19 → a ≠ b → (TX0 a).2.1 ≠ (TX0 b).2.1 := by decide +kernel
theorem tyX0_ok : ∀ k, k < 19 → parseFieldDescriptor (TX0 k).2.2.1 = some (tyX0 k) := by decide +kernel
theorem df_X0 : ∀ j, j < 19 → defaultValue (tyX0 j) = vp_V [.int 0, .int 0, .int 0, .int 0, .null, .null, .null, .null, .null, .null, .null, .null, .null, .null, .null, .null, .null, .null, .null] j := by decide +kernel
def RX1 : String := "SsaForge$Constants"
def TX1 : u_T := fun k => match k with
  | 0 => ("SsaForge$Constants", "gone", "[Z", true)
  | 1 => ("SsaForge$Constants", "firstOpen", "[Z", true)
  | 2 => ("SsaForge$Constants", "secondOpen", "[Z", true)
  | 3 => ("SsaForge$Constants", "kinds", "[I", true)
  | 4 => ("SsaForge$Constants", "instead", "[J", true)
  | _ => ("SsaForge$Constants", "changed", "Z", false)
def tyX1 : Nat → FieldType := fun k => match k with
  | 0 => .array .boolean
  | 1 => .array .boolean
  | 2 => .array .boolean
  | 3 => .array .int
  | 4 => .array .long
  | _ => .boolean
abbrev wsX10 : List Cond := u_ws RX1 TX1 6
theorem nmX1 : ∀ a, a < 6 → ∀ b, b < 6 → a ≠ b → (TX1 a).2.1 ≠ (TX1 b).2.1 := by decide +kernel
theorem tyX1_ok : ∀ k, k < 6 → parseFieldDescriptor (TX1 k).2.2.1 = some (tyX1 k) := by decide +kernel
theorem df_X1 : ∀ j, j < 6 → defaultValue (tyX1 j) = vp_V [.null, .null, .null, .null, .null, .int 0] j := by decide +kernel
def RX2 : String := "SsaForge$Flow"
def TX2 : u_T := fun k => match k with
  | 0 => ("SsaForge$Flow", "reached", "I", false)
  | 1 => ("SsaForge$Flow", "idom", "[I", true)
  | 2 => ("SsaForge$Flow", "order", "[I", true)
  | 3 => ("SsaForge$Flow", "inLoop", "[Z", true)
  | 4 => ("SsaForge$Flow", "place", "[I", true)
  | 5 => ("SsaForge$Flow", "span", "[I", true)
  | 6 => ("SsaForge$Flow", "frontier", "[J", true)
  | 7 => ("SsaForge$Flow", "stack", "[I", true)
  | 8 => ("SsaForge$Flow", "nextGoal", "[I", true)
  | 9 => ("SsaForge$Flow", "post", "[I", true)
  | 10 => ("SsaForge$Flow", "byPost", "[I", true)
  | 11 => ("SsaForge$Flow", "firstChild", "[I", true)
  | _ => ("SsaForge$Flow", "nextChild", "[I", true)
def tyX2 : Nat → FieldType := fun k => match k with
  | 0 => .int
  | 1 => .array .int
  | 2 => .array .int
  | 3 => .array .boolean
  | 4 => .array .int
  | 5 => .array .int
  | 6 => .array .long
  | 7 => .array .int
  | 8 => .array .int
  | 9 => .array .int
  | 10 => .array .int
  | 11 => .array .int
  | _ => .array .int
abbrev wsX20 : List Cond := u_ws RX2 TX2 13
theorem nmX2 : ∀ a, a < 13 → ∀ b, b < 13 → a ≠ b → (TX2 a).2.1 ≠ (TX2 b).2.1 := by decide +kernel
theorem tyX2_ok : ∀ k, k < 13 → parseFieldDescriptor (TX2 k).2.2.1 = some (tyX2 k) := by decide +kernel
theorem df_X2 : ∀ j, j < 13 → defaultValue (tyX2 j) = vp_V [.int 0, .null, .null, .null, .null, .null, .null, .null, .null, .null, .null, .null, .null] j := by decide +kernel
def RX3 : String := "SsaForge$Likes"
def TX3 : u_T := fun k => match k with
  | 0 => ("SsaForge$Likes", "instead", "[J", true)
  | 1 => ("SsaForge$Likes", "standing", "[I", true)
  | 2 => ("SsaForge$Likes", "standingCount", "I", false)
  | 3 => ("SsaForge$Likes", "path", "[I", true)
  | _ => ("SsaForge$Likes", "pathMark", "[I", true)
def tyX3 : Nat → FieldType := fun k => match k with
  | 0 => .array .long
  | 1 => .array .int
  | 2 => .int
  | 3 => .array .int
  | _ => .array .int
abbrev wsX30 : List Cond := u_ws RX3 TX3 5
theorem nmX3 : ∀ a, a < 5 → ∀ b, b < 5 → a ≠ b → (TX3 a).2.1 ≠ (TX3 b).2.1 := by decide +kernel
theorem tyX3_ok : ∀ k, k < 5 → parseFieldDescriptor (TX3 k).2.2.1 = some (tyX3 k) := by decide +kernel
theorem df_X3 : ∀ j, j < 5 → defaultValue (tyX3 j) = vp_V [.null, .null, .int 0, .null, .null] j := by decide +kernel
def RX4 : String := "SsaForge$Live"
def TX4 : u_T := fun k => match k with
  | 0 => ("SsaForge$Live", "words", "I", false)
  | 1 => ("SsaForge$Live", "start", "[J", true)
  | 2 => ("SsaForge$Live", "finish", "[J", true)
  | 3 => ("SsaForge$Live", "sets", "[J", true)
  | 4 => ("SsaForge$Live", "uses", "[J", true)
  | 5 => ("SsaForge$Live", "phiSets", "[J", true)
  | 6 => ("SsaForge$Live", "phiUses", "[J", true)
  | _ => ("SsaForge$Live", "now", "[J", true)
def tyX4 : Nat → FieldType := fun k => match k with
  | 0 => .int
  | 1 => .array .long
  | 2 => .array .long
  | 3 => .array .long
  | 4 => .array .long
  | 5 => .array .long
  | 6 => .array .long
  | _ => .array .long
abbrev wsX40 : List Cond := u_ws RX4 TX4 8
theorem nmX4 : ∀ a, a < 8 → ∀ b, b < 8 → a ≠ b → (TX4 a).2.1 ≠ (TX4 b).2.1 := by decide +kernel
theorem tyX4_ok : ∀ k, k < 8 → parseFieldDescriptor (TX4 k).2.2.1 = some (tyX4 k) := by decide +kernel
theorem df_X4 : ∀ j, j < 8 → defaultValue (tyX4 j) = vp_V [.int 0, .null, .null, .null, .null, .null, .null, .null] j := by decide +kernel
def RX5 : String := "SsaForge$Machine"
def TX5 : u_T := fun k => match k with
  | 0 => ("SsaForge$Machine", "inputLength", "I", false)
  | 1 => ("SsaForge$Machine", "answer", "I", false)
  | 2 => ("SsaForge$Machine", "shownCount", "I", false)
  | 3 => ("SsaForge$Machine", "steps", "I", false)
  | 4 => ("SsaForge$Machine", "inputRead", "I", false)
  | 5 => ("SsaForge$Machine", "ending", "I", false)
  | 6 => ("SsaForge$Machine", "shownInts", "[I", true)
  | 7 => ("SsaForge$Machine", "inputInts", "[I", true)
  | 8 => ("SsaForge$Machine", "register", "[I", true)
  | 9 => ("SsaForge$Machine", "phiValue", "[I", true)
  | _ => ("SsaForge$Machine", "fuel", "I", false)
def tyX5 : Nat → FieldType := fun k => match k with
  | 0 => .int
  | 1 => .int
  | 2 => .int
  | 3 => .int
  | 4 => .int
  | 5 => .int
  | 6 => .array .int
  | 7 => .array .int
  | 8 => .array .int
  | 9 => .array .int
  | _ => .int
abbrev wsX50 : List Cond := u_ws RX5 TX5 11
theorem nmX5 : ∀ a, a < 11 → ∀ b, b < 11 → a ≠ b → (TX5 a).2.1 ≠ (TX5 b).2.1 := by decide +kernel
theorem tyX5_ok : ∀ k, k < 11 → parseFieldDescriptor (TX5 k).2.2.1 = some (tyX5 k) := by decide +kernel
theorem df_X5 : ∀ j, j < 11 → defaultValue (tyX5 j) = vp_V [.int 0, .int 0, .int 0, .int 0, .int 0, .int 0, .null, .null, .null, .null, .int 0] j := by decide +kernel
def RX6 : String := "SsaForge$Printer"
def TX6 : u_T := fun k => match k with
  | 0 => ("SsaForge$Printer", "length", "I", false)
  | 1 => ("SsaForge$Printer", "result", "[B", false)
  | 2 => ("SsaForge$Printer", "digits", "[I", true)
  | 3 => ("SsaForge$Printer", "keeping", "Z", false)
  | _ => ("SsaForge$Printer", "at", "I", false)
def tyX6 : Nat → FieldType := fun k => match k with
  | 0 => .int
  | 1 => .array .byte
  | 2 => .array .int
  | 3 => .boolean
  | _ => .int
abbrev wsX60 : List Cond := u_ws RX6 TX6 5
theorem nmX6 : ∀ a, a < 5 → ∀ b, b < 5 → a ≠ b → (TX6 a).2.1 ≠ (TX6 b).2.1 := by decide +kernel
theorem tyX6_ok : ∀ k, k < 5 → parseFieldDescriptor (TX6 k).2.2.1 = some (tyX6 k) := by decide +kernel
theorem df_X6 : ∀ j, j < 5 → defaultValue (tyX6 j) = vp_V [.int 0, .null, .null, .int 0, .int 0] j := by decide +kernel
def RX7 : String := "SsaForge$Reader"
def TX7 : u_T := fun k => match k with
  | 0 => ("SsaForge$Reader", "reason", "I", false)
  | 1 => ("SsaForge$Reader", "bytes", "[B", false)
  | 2 => ("SsaForge$Reader", "length", "I", false)
  | 3 => ("SsaForge$Reader", "at", "I", false)
  | 4 => ("SsaForge$Reader", "kind", "I", false)
  | 5 => ("SsaForge$Reader", "place", "I", false)
  | 6 => ("SsaForge$Reader", "value", "I", false)
  | 7 => ("SsaForge$Reader", "state", "I", false)
  | 8 => ("SsaForge$Reader", "code", "LSsaForge$Code;", false)
  | 9 => ("SsaForge$Reader", "rowCount", "I", false)
  | 10 => ("SsaForge$Reader", "blockCount", "I", false)
  | 11 => ("SsaForge$Reader", "rowTarget", "I", false)
  | 12 => ("SsaForge$Reader", "rowOp", "I", false)
  | 13 => ("SsaForge$Reader", "operand", "J", false)
  | 14 => ("SsaForge$Reader", "firstGoal", "I", false)
  | 15 => ("SsaForge$Reader", "brokenPlace", "I", false)
  | 16 => ("SsaForge$Reader", "labelled", "[Z", true)
  | _ => ("SsaForge$Reader", "goalPlace", "[I", true)
def tyX7 : Nat → FieldType := fun k => match k with
  | 0 => .int
  | 1 => .array .byte
  | 2 => .int
  | 3 => .int
  | 4 => .int
  | 5 => .int
  | 6 => .int
  | 7 => .int
  | 8 => .object "SsaForge$Code"
  | 9 => .int
  | 10 => .int
  | 11 => .int
  | 12 => .int
  | 13 => .long
  | 14 => .int
  | 15 => .int
  | 16 => .array .boolean
  | _ => .array .int
abbrev wsX70 : List Cond := u_ws RX7 TX7 18
theorem nmX7 : ∀ a, a < 18 → ∀ b, b < 18 → a ≠ b → (TX7 a).2.1 ≠ (TX7 b).2.1 := by decide +kernel
theorem tyX7_ok : ∀ k, k < 18 → parseFieldDescriptor (TX7 k).2.2.1 = some (tyX7 k) := by decide +kernel
theorem df_X7 : ∀ j, j < 18 → defaultValue (tyX7 j) = vp_V [.int 0, .null, .int 0, .int 0, .int 0, .int 0, .int 0, .int 0, .null, .int 0, .int 0, .int 0, .int 0, .long 0, .int 0, .int 0, .null, .null] j := by decide +kernel
def RX8 : String := "SsaForge$SsaMaker"
def TX8 : u_T := fun k => match k with
  | 0 => ("SsaForge$SsaMaker", "wanted", "[J", true)
  | 1 => ("SsaForge$SsaMaker", "latest", "[I", true)
  | 2 => ("SsaForge$SsaMaker", "path", "[I", true)
  | 3 => ("SsaForge$SsaMaker", "pathMark", "[I", true)
  | 4 => ("SsaForge$SsaMaker", "hiddenRegister", "[I", true)
  | 5 => ("SsaForge$SsaMaker", "hiddenLatest", "[I", true)
  | 6 => ("SsaForge$SsaMaker", "hidden", "I", false)
  | _ => ("SsaForge$SsaMaker", "given", "I", false)
def tyX8 : Nat → FieldType := fun k => match k with
  | 0 => .array .long
  | 1 => .array .int
  | 2 => .array .int
  | 3 => .array .int
  | 4 => .array .int
  | 5 => .array .int
  | 6 => .int
  | _ => .int
abbrev wsX80 : List Cond := u_ws RX8 TX8 8
theorem nmX8 : ∀ a, a < 8 → ∀ b, b < 8 → a ≠ b → (TX8 a).2.1 ≠ (TX8 b).2.1 := by decide +kernel
theorem tyX8_ok : ∀ k, k < 8 → parseFieldDescriptor (TX8 k).2.2.1 = some (tyX8 k) := by decide +kernel
theorem df_X8 : ∀ j, j < 8 → defaultValue (tyX8 j) = vp_V [.null, .null, .null, .null, .null, .null, .int 0, .int 0] j := by decide +kernel
def RX9 : String := "SsaForge$Tidier"
def TX9 : u_T := fun k => match k with
  | 0 => ("SsaForge$Tidier", "leads", "[Z", true)
  | 1 => ("SsaForge$Tidier", "follower", "[I", true)
  | 2 => ("SsaForge$Tidier", "number", "[I", true)
  | 3 => ("SsaForge$Tidier", "firstOf", "[I", true)
  | 4 => ("SsaForge$Tidier", "lastOf", "[I", true)
  | 5 => ("SsaForge$Tidier", "marked", "[Z", true)
  | 6 => ("SsaForge$Tidier", "instead", "[J", true)
  | 7 => ("SsaForge$Tidier", "changed", "Z", false)
  | _ => ("SsaForge$Tidier", "foundBlock", "I", false)
def tyX9 : Nat → FieldType := fun k => match k with
  | 0 => .array .boolean
  | 1 => .array .int
  | 2 => .array .int
  | 3 => .array .int
  | 4 => .array .int
  | 5 => .array .boolean
  | 6 => .array .long
  | 7 => .boolean
  | _ => .int
abbrev wsX90 : List Cond := u_ws RX9 TX9 9
theorem nmX9 : ∀ a, a < 9 → ∀ b, b < 9 → a ≠ b → (TX9 a).2.1 ≠ (TX9 b).2.1 := by decide +kernel
theorem tyX9_ok : ∀ k, k < 9 → parseFieldDescriptor (TX9 k).2.2.1 = some (tyX9 k) := by decide +kernel
theorem df_X9 : ∀ j, j < 9 → defaultValue (tyX9 j) = vp_V [.null, .null, .null, .null, .null, .null, .null, .int 0, .int 0] j := by decide +kernel
def RX10 : String := "SsaForge$WayOut"
def TX10 : u_T := fun k => match k with
  | 0 => ("SsaForge$WayOut", "colour", "[I", true)
  | 1 => ("SsaForge$WayOut", "busy", "[I", true)
  | 2 => ("SsaForge$WayOut", "rowFlags", "[I", true)
  | 3 => ("SsaForge$WayOut", "now", "[J", true)
  | 4 => ("SsaForge$WayOut", "words", "I", false)
  | 5 => ("SsaForge$WayOut", "stamp", "I", false)
  | 6 => ("SsaForge$WayOut", "colours", "I", false)
  | 7 => ("SsaForge$WayOut", "present", "[Z", true)
  | 8 => ("SsaForge$WayOut", "moveTo", "[I", true)
  | 9 => ("SsaForge$WayOut", "moveFrom", "[J", true)
  | 10 => ("SsaForge$WayOut", "moved", "[Z", true)
  | 11 => ("SsaForge$WayOut", "waiting", "[I", true)
  | 12 => ("SsaForge$WayOut", "moves", "I", false)
  | _ => ("SsaForge$WayOut", "helper", "I", false)
def tyX10 : Nat → FieldType := fun k => match k with
  | 0 => .array .int
  | 1 => .array .int
  | 2 => .array .int
  | 3 => .array .long
  | 4 => .int
  | 5 => .int
  | 6 => .int
  | 7 => .array .boolean
  | 8 => .array .int
  | 9 => .array .long
  | 10 => .array .boolean
  | 11 => .array .int
  | 12 => .int
  | _ => .int
abbrev wsX100 : List Cond := u_ws RX10 TX10 14
theorem nmX10 : ∀ a, a < 14 → ∀ b, b < 14 → a ≠ b → (TX10 a).2.1 ≠ (TX10 b).2.1 := by decide +kernel
theorem tyX10_ok : ∀ k, k < 14 → parseFieldDescriptor (TX10 k).2.2.1 = some (tyX10 k) := by decide +kernel
theorem df_X10 : ∀ j, j < 14 → defaultValue (tyX10 j) = vp_V [.null, .null, .null, .null, .int 0, .int 0, .int 0, .null, .null, .null, .null, .null, .int 0, .int 0] j := by decide +kernel
def RX11 : String := "SsaForge"
def TX11 : u_T := fun k => match k with
  | 0 => ("SsaForge", "tape", "[B", true)
  | 1 => ("SsaForge", "tapeLength", "I", false)
  | 2 => ("SsaForge", "form", "I", false)
  | 3 => ("SsaForge", "code", "LSsaForge$Code;", false)
  | 4 => ("SsaForge", "spare", "LSsaForge$Code;", false)
  | 5 => ("SsaForge", "flow", "LSsaForge$Flow;", true)
  | 6 => ("SsaForge", "flowKnown", "Z", false)
  | 7 => ("SsaForge", "live", "LSsaForge$Live;", true)
  | 8 => ("SsaForge", "liveKnown", "Z", false)
  | 9 => ("SsaForge", "reader", "LSsaForge$Reader;", true)
  | 10 => ("SsaForge", "ssaMaker", "LSsaForge$SsaMaker;", true)
  | 11 => ("SsaForge", "constants", "LSsaForge$Constants;", true)
  | 12 => ("SsaForge", "likes", "LSsaForge$Likes;", true)
  | 13 => ("SsaForge", "tidier", "LSsaForge$Tidier;", true)
  | 14 => ("SsaForge", "wayOut", "LSsaForge$WayOut;", true)
  | 15 => ("SsaForge", "machine", "LSsaForge$Machine;", true)
  | _ => ("SsaForge", "printer", "LSsaForge$Printer;", true)
def tyX11 : Nat → FieldType := fun k => match k with
  | 0 => .array .byte
  | 1 => .int
  | 2 => .int
  | 3 => .object "SsaForge$Code"
  | 4 => .object "SsaForge$Code"
  | 5 => .object "SsaForge$Flow"
  | 6 => .boolean
  | 7 => .object "SsaForge$Live"
  | 8 => .boolean
  | 9 => .object "SsaForge$Reader"
  | 10 => .object "SsaForge$SsaMaker"
  | 11 => .object "SsaForge$Constants"
  | 12 => .object "SsaForge$Likes"
  | 13 => .object "SsaForge$Tidier"
  | 14 => .object "SsaForge$WayOut"
  | 15 => .object "SsaForge$Machine"
  | _ => .object "SsaForge$Printer"
abbrev wsX110 : List Cond := u_ws RX11 TX11 17
theorem nmX11 : ∀ a, a < 17 → ∀ b, b < 17 → a ≠ b → (TX11 a).2.1 ≠ (TX11 b).2.1 := by decide +kernel
theorem tyX11_ok : ∀ k, k < 17 → parseFieldDescriptor (TX11 k).2.2.1 = some (tyX11 k) := by decide +kernel
theorem df_X11 : ∀ j, j < 17 → defaultValue (tyX11 j) = vp_V [.null, .int 0, .int 0, .null, .null, .null, .int 0, .null, .int 0, .null, .null, .null, .null, .null, .null, .null, .null] j := by decide +kernel
def RX13 : String := "SsaForgeModel$Code"
def TX13 : u_T := fun k => match k with
  | 0 => ("SsaForgeModel$Code", "blocks", "Ljava/util/ArrayList;", true)
  | 1 => ("SsaForgeModel$Code", "rows", "Ljava/util/ArrayList;", true)
  | 2 => ("SsaForgeModel$Code", "phis", "Ljava/util/ArrayList;", true)
  | 3 => ("SsaForgeModel$Code", "rowN", "I", false)
  | 4 => ("SsaForgeModel$Code", "phiN", "I", false)
  | 5 => ("SsaForgeModel$Code", "all", "Ljava/util/ArrayList;", true)
  | _ => ("SsaForgeModel$Code", "made", "I", false)
def tyX13 : Nat → FieldType := fun k => match k with
  | 0 => .object "java/util/ArrayList"
  | 1 => .object "java/util/ArrayList"
  | 2 => .object "java/util/ArrayList"
  | 3 => .int
  | 4 => .int
  | 5 => .object "java/util/ArrayList"
  | _ => .int
abbrev wsX130 : List Cond := u_ws RX13 TX13 7
theorem nmX13 : ∀ a, a < 7 → ∀ b, b < 7 → a ≠ b → (TX13 a).2.1 ≠ (TX13 b).2.1 := by decide +kernel
theorem tyX13_ok : ∀ k, k < 7 → parseFieldDescriptor (TX13 k).2.2.1 = some (tyX13 k) := by decide +kernel
theorem df_X13 : ∀ j, j < 7 → defaultValue (tyX13 j) = vp_V [.null, .null, .null, .int 0, .int 0, .null, .int 0] j := by decide +kernel
def RX14 : String := "SsaForgeModel$Flow"
def TX14 : u_T := fun k => match k with
  | 0 => ("SsaForgeModel$Flow", "c", "LSsaForgeModel$Code;", false)
  | 1 => ("SsaForgeModel$Flow", "n", "I", false)
  | 2 => ("SsaForgeModel$Flow", "reached", "[Z", false)
  | 3 => ("SsaForgeModel$Flow", "dominates", "[[Z", false)
  | 4 => ("SsaForgeModel$Flow", "idom", "[I", false)
  | 5 => ("SsaForgeModel$Flow", "order", "[I", false)
  | 6 => ("SsaForgeModel$Flow", "ordered", "I", false)
  | 7 => ("SsaForgeModel$Flow", "stack", "[I", false)
  | 8 => ("SsaForgeModel$Flow", "depth", "[I", false)
  | 9 => ("SsaForgeModel$Flow", "seen", "[Z", false)
  | 10 => ("SsaForgeModel$Flow", "live", "[[Z", false)
  | 11 => ("SsaForgeModel$Flow", "now", "[Z", false)
  | _ => ("SsaForgeModel$Flow", "phi", "[Z", true)
def tyX14 : Nat → FieldType := fun k => match k with
  | 0 => .object "SsaForgeModel$Code"
  | 1 => .int
  | 2 => .array .boolean
  | 3 => .array (.array .boolean)
  | 4 => .array .int
  | 5 => .array .int
  | 6 => .int
  | 7 => .array .int
  | 8 => .array .int
  | 9 => .array .boolean
  | 10 => .array (.array .boolean)
  | 11 => .array .boolean
  | _ => .array .boolean
abbrev wsX140 : List Cond := u_ws RX14 TX14 13
theorem nmX14 : ∀ a, a < 13 → ∀ b, b < 13 → a ≠ b → (TX14 a).2.1 ≠ (TX14 b).2.1 := by decide +kernel
theorem tyX14_ok : ∀ k, k < 13 → parseFieldDescriptor (TX14 k).2.2.1 = some (tyX14 k) := by decide +kernel
theorem df_X14 : ∀ j, j < 13 → defaultValue (tyX14 j) = vp_V [.null, .int 0, .null, .null, .null, .null, .int 0, .null, .null, .null, .null, .null, .null] j := by decide +kernel
def RX16 : String := "SsaForgeModel$Reader"
def TX16 : u_T := fun k => match k with
  | 0 => ("SsaForgeModel$Reader", "t", "[B", true)
  | 1 => ("SsaForgeModel$Reader", "n", "I", true)
  | 2 => ("SsaForgeModel$Reader", "at", "I", false)
  | 3 => ("SsaForgeModel$Reader", "kind", "I", false)
  | 4 => ("SsaForgeModel$Reader", "place", "I", false)
  | 5 => ("SsaForgeModel$Reader", "value", "I", false)
  | 6 => ("SsaForgeModel$Reader", "before", "I", false)
  | 7 => ("SsaForgeModel$Reader", "text", "Ljava/lang/String;", false)
  | 8 => ("SsaForgeModel$Reader", "rulePlace", "I", false)
  | 9 => ("SsaForgeModel$Reader", "rule", "I", false)
  | 10 => ("SsaForgeModel$Reader", "rows", "I", false)
  | 11 => ("SsaForgeModel$Reader", "goalPlaces", "[I", false)
  | 12 => ("SsaForgeModel$Reader", "goals", "[I", false)
  | _ => ("SsaForgeModel$Reader", "goalN", "I", false)
def tyX16 : Nat → FieldType := fun k => match k with
  | 0 => .array .byte
  | 1 => .int
  | 2 => .int
  | 3 => .int
  | 4 => .int
  | 5 => .int
  | 6 => .int
  | 7 => .object "java/lang/String"
  | 8 => .int
  | 9 => .int
  | 10 => .int
  | 11 => .array .int
  | 12 => .array .int
  | _ => .int
abbrev wsX160 : List Cond := u_ws RX16 TX16 14
theorem nmX16 : ∀ a, a < 14 → ∀ b, b < 14 → a ≠ b → (TX16 a).2.1 ≠ (TX16 b).2.1 := by decide +kernel
theorem tyX16_ok : ∀ k, k < 14 → parseFieldDescriptor (TX16 k).2.2.1 = some (tyX16 k) := by decide +kernel
theorem df_X16 : ∀ j, j < 14 → defaultValue (tyX16 j) = vp_V [.null, .int 0, .int 0, .int 0, .int 0, .int 0, .int 0, .null, .int 0, .int 0, .int 0, .null, .null, .int 0] j := by decide +kernel
def RX18 : String := "SsaForgeModel$Wrong"
def TX18 : u_T := fun k => match k with
  | 0 => ("java/lang/Throwable", "cause", "Ljava/lang/Throwable;", false)
  | 1 => ("java/lang/Throwable", "stackTrace", "[Ljava/lang/StackTraceElement;", false)
  | 2 => ("java/lang/Throwable", "suppressedExceptions", "Ljava/util/List;", false)
  | 3 => ("java/lang/Throwable", "detailMessage", "Ljava/lang/String;", false)
  | 4 => ("java/lang/Throwable", "backtrace", "Ljava/lang/Object;", false)
  | 5 => ("java/lang/Throwable", "depth", "I", false)
  | _ => ("SsaForgeModel$Wrong", "place", "I", true)
def tyX18 : Nat → FieldType := fun k => match k with
  | 0 => .object "java/lang/Throwable"
  | 1 => .array (.object "java/lang/StackTraceElement")
  | 2 => .object "java/util/List"
  | 3 => .object "java/lang/String"
  | 4 => .object "java/lang/Object"
  | 5 => .int
  | _ => .int
abbrev wsX180 : List Cond := u_ws RX18 TX18 7
theorem nmX18 : ∀ a, a < 7 → ∀ b, b < 7 → a ≠ b → (TX18 a).2.1 ≠ (TX18 b).2.1 := by decide +kernel
theorem tyX18_ok : ∀ k, k < 7 → parseFieldDescriptor (TX18 k).2.2.1 = some (tyX18 k) := by decide +kernel
theorem df_X18 : ∀ j, j < 7 → defaultValue (tyX18 j) = vp_V [.null, .null, .null, .null, .null, .int 0, .int 0] j := by decide +kernel
def RX19 : String := "SsaForgeModel"
def TX19 : u_T := fun k => match k with
  | 0 => ("SsaForgeModel", "flow", "LSsaForgeModel$Flow;", true)
  | 1 => ("SsaForgeModel", "code", "LSsaForgeModel$Code;", false)
  | 2 => ("SsaForgeModel", "spare", "LSsaForgeModel$Code;", false)
  | 3 => ("SsaForgeModel", "numbers", "[I", false)
  | 4 => ("SsaForgeModel", "flags", "[Z", false)
  | 5 => ("SsaForgeModel", "sets", "[Z", false)
  | 6 => ("SsaForgeModel", "latest", "[[I", false)
  | 7 => ("SsaForgeModel", "state", "[I", true)
  | 8 => ("SsaForgeModel", "number", "[I", true)
  | 9 => ("SsaForgeModel", "gone", "[Z", false)
  | 10 => ("SsaForgeModel", "open", "[Z", false)
  | 11 => ("SsaForgeModel", "changed", "Z", false)
  | 12 => ("SsaForgeModel", "replaced", "[Z", true)
  | 13 => ("SsaForgeModel", "byReg", "[Z", true)
  | 14 => ("SsaForgeModel", "by", "[I", true)
  | 15 => ("SsaForgeModel", "needed", "[Z", true)
  | 16 => ("SsaForgeModel", "loop", "[Z", false)
  | 17 => ("SsaForgeModel", "inside", "[Z", true)
  | 18 => ("SsaForgeModel", "becomes", "[I", true)
  | 19 => ("SsaForgeModel", "taken", "[Z", true)
  | 20 => ("SsaForgeModel", "movesTo", "[I", false)
  | 21 => ("SsaForgeModel", "movesOf", "[I", false)
  | 22 => ("SsaForgeModel", "movesReg", "[Z", false)
  | 23 => ("SsaForgeModel", "moves", "I", false)
  | 24 => ("SsaForgeModel", "registers", "[I", true)
  | 25 => ("SsaForgeModel", "shows", "[I", true)
  | 26 => ("SsaForgeModel", "atOnce", "[I", false)
  | 27 => ("SsaForgeModel", "ended", "I", false)
  | 28 => ("SsaForgeModel", "answer", "I", false)
  | 29 => ("SsaForgeModel", "shown", "I", false)
  | 30 => ("SsaForgeModel", "steps", "I", false)
  | 31 => ("SsaForgeModel", "read", "I", false)
  | 32 => ("SsaForgeModel", "words", "Ljava/lang/StringBuilder;", true)
  | 33 => ("SsaForgeModel", "thrown", "I", false)
  | 34 => ("SsaForgeModel", "tape", "[B", true)
  | 35 => ("SsaForgeModel", "size", "I", false)
  | 36 => ("SsaForgeModel", "form", "I", false)
  | 37 => ("SsaForgeModel", "reason", "I", false)
  | 38 => ("SsaForgeModel", "results", "I", false)
  | 39 => ("SsaForgeModel", "result", "[B", false)
  | _ => ("SsaForgeModel", "input", "[I", false)
def tyX19 : Nat → FieldType := fun k => match k with
  | 0 => .object "SsaForgeModel$Flow"
  | 1 => .object "SsaForgeModel$Code"
  | 2 => .object "SsaForgeModel$Code"
  | 3 => .array .int
  | 4 => .array .boolean
  | 5 => .array .boolean
  | 6 => .array (.array .int)
  | 7 => .array .int
  | 8 => .array .int
  | 9 => .array .boolean
  | 10 => .array .boolean
  | 11 => .boolean
  | 12 => .array .boolean
  | 13 => .array .boolean
  | 14 => .array .int
  | 15 => .array .boolean
  | 16 => .array .boolean
  | 17 => .array .boolean
  | 18 => .array .int
  | 19 => .array .boolean
  | 20 => .array .int
  | 21 => .array .int
  | 22 => .array .boolean
  | 23 => .int
  | 24 => .array .int
  | 25 => .array .int
  | 26 => .array .int
  | 27 => .int
  | 28 => .int
  | 29 => .int
  | 30 => .int
  | 31 => .int
  | 32 => .object "java/lang/StringBuilder"
  | 33 => .int
  | 34 => .array .byte
  | 35 => .int
  | 36 => .int
  | 37 => .int
  | 38 => .int
  | 39 => .array .byte
  | _ => .array .int
abbrev wsX190 : List Cond := u_ws RX19 TX19 41
theorem nmX19 : ∀ a, a < 41 → ∀ b, b < 41 → a ≠ b → (TX19 a).2.1 ≠ (TX19 b).2.1 := by decide +kernel
theorem tyX19_ok : ∀ k, k < 41 → parseFieldDescriptor (TX19 k).2.2.1 = some (tyX19 k) := by decide +kernel
theorem df_X19 : ∀ j, j < 41 → defaultValue (tyX19 j) = vp_V [.null, .null, .null, .null, .null, .null, .null, .null, .null, .null, .null, .int 0, .null, .null, .null, .null, .null, .null, .null, .null, .null, .null, .null, .int 0, .null, .null, .null, .int 0, .int 0, .int 0, .int 0, .int 0, .null, .int 0, .null, .int 0, .int 0, .int 0, .int 0, .null, .null] j := by decide +kernel
def RJ4 : String := "java/lang/StringBuilder"
def TJ4 : u_T := fun k => match k with
  | 0 => ("java/lang/AbstractStringBuilder", "value", "[B", false)
  | 1 => ("java/lang/AbstractStringBuilder", "coder", "B", false)
  | 2 => ("java/lang/AbstractStringBuilder", "maybeLatin1", "Z", false)
  | _ => ("java/lang/AbstractStringBuilder", "count", "I", false)
def tyJ4 : Nat → FieldType := fun k => match k with
  | 0 => .array .byte
  | 1 => .byte
  | 2 => .boolean
  | _ => .int
abbrev wsJ40 : List Cond := u_ws RJ4 TJ4 4
theorem nmJ4 : ∀ a, a < 4 → ∀ b, b < 4 → a ≠ b → (TJ4 a).2.1 ≠ (TJ4 b).2.1 := by decide +kernel
theorem tyJ4_ok : ∀ k, k < 4 → parseFieldDescriptor (TJ4 k).2.2.1 = some (tyJ4 k) := by decide +kernel
theorem df_J4 : ∀ j, j < 4 → defaultValue (tyJ4 j) = vp_V [.null, .int 0, .int 0, .int 0] j := by decide +kernel
def RJx4a65c : String := "java/util/ArrayList"
def TJx4a65c : u_T := fun k => match k with
  | 0 => ("java/util/AbstractList", "modCount", "I", false)
  | 1 => ("java/util/ArrayList", "elementData", "[Ljava/lang/Object;", false)
  | _ => ("java/util/ArrayList", "size", "I", false)
def tyJx4a65c : Nat → FieldType := fun k => match k with
  | 0 => .int
  | 1 => .array (.object "java/lang/Object")
  | _ => .int
abbrev wsJx4a65c0 : List Cond := u_ws RJx4a65c TJx4a65c 3
theorem nmJx4a65c : ∀ a, a < 3 → ∀ b, b < 3 → a ≠ b → (TJx4a65c a).2.1 ≠ (TJx4a65c b).2.1 := by decide +kernel
theorem tyJx4a65c_ok : ∀ k, k < 3 → parseFieldDescriptor (TJx4a65c k).2.2.1 = some (tyJx4a65c k) := by decide +kernel
theorem df_Jx4a65c : ∀ j, j < 3 → defaultValue (tyJx4a65c j) = vp_V [.int 0, .null, .int 0] j := by decide +kernel
def RT1 : String := "java/lang/RuntimeException"
def RT2 : String := "java/lang/Exception"
def RT3 : String := "java/lang/Throwable"
def RJxa1e45 : String := "java/util/AbstractCollection"
def RJxc12de : String := "java/util/AbstractList"
def RJ5 : String := "java/lang/AbstractStringBuilder"
def RL : String := "SsaForgeLaw"
abbrev cX0_init : ByteArray := prog_2_method_1_code
def yX0_init : MethodName := ⟨RX0, "<init>", "()V"⟩
abbrev cX1_init : ByteArray := prog_3_method_1_code
def yX1_init : MethodName := ⟨RX1, "<init>", "()V"⟩
abbrev cX2_init : ByteArray := prog_4_method_1_code
def yX2_init : MethodName := ⟨RX2, "<init>", "()V"⟩
abbrev cX3_init : ByteArray := prog_5_method_1_code
def yX3_init : MethodName := ⟨RX3, "<init>", "()V"⟩
abbrev cX4_init : ByteArray := prog_6_method_1_code
def yX4_init : MethodName := ⟨RX4, "<init>", "()V"⟩
abbrev cX8_init : ByteArray := prog_10_method_1_code
def yX8_init : MethodName := ⟨RX8, "<init>", "()V"⟩
abbrev cX9_init : ByteArray := prog_11_method_1_code
def yX9_init : MethodName := ⟨RX9, "<init>", "()V"⟩
abbrev cX10_init : ByteArray := prog_12_method_1_code
def yX10_init : MethodName := ⟨RX10, "<init>", "()V"⟩
abbrev cX5_init : ByteArray := prog_7_method_1_code
def yX5_init : MethodName := ⟨RX5, "<init>", "()V"⟩
abbrev cX6_init : ByteArray := prog_8_method_1_code
def yX6_init : MethodName := ⟨RX6, "<init>", "()V"⟩
abbrev cX7_init : ByteArray := prog_9_method_1_code
def yX7_init : MethodName := ⟨RX7, "<init>", "()V"⟩
abbrev cX11_init : ByteArray := prog_1_method_1_code
def yX11_init : MethodName := ⟨RX11, "<init>", "()V"⟩
abbrev cX11_putOnTape : ByteArray := prog_1_method_16_code
def yX11_putOnTape : MethodName := ⟨RX11, "putOnTape", "(I)V"⟩
abbrev cX11_feed : ByteArray := prog_1_method_2_code
def yX11_feed : MethodName := ⟨RX11, "feed", "(IIIII)I"⟩
abbrev cX0_clear : ByteArray := prog_2_method_2_code
def yX0_clear : MethodName := ⟨RX0, "clear", "()V"⟩
abbrev cX7_begin : ByteArray := prog_9_method_3_code
def yX7_begin : MethodName := ⟨RX7, "begin", "([BILSsaForge$Code;)V"⟩
abbrev cX7_skipBlanks : ByteArray := prog_9_method_8_code
def yX7_skipBlanks : MethodName := ⟨RX7, "skipBlanks", "()V"⟩
abbrev cX7_scan : ByteArray := prog_9_method_7_code
def yX7_scan : MethodName := ⟨RX7, "scan", "()V"⟩
abbrev cX7_readAll : ByteArray := prog_9_method_2_code
def yX7_readAll : MethodName := ⟨RX7, "readAll", "([BILSsaForge$Code;)I"⟩
abbrev cX11_text : ByteArray := prog_1_method_4_code
def yX11_text : MethodName := ⟨RX11, "text", "()I"⟩
abbrev cX5_takeInput : ByteArray := prog_7_method_2_code
def yX5_takeInput : MethodName := ⟨RX5, "takeInput", "([BI)V"⟩
abbrev cX11_input : ByteArray := prog_1_method_5_code
def yX11_input : MethodName := ⟨RX11, "input", "()I"⟩
abbrev cX11_end : ByteArray := prog_1_method_3_code
def yX11_end : MethodName := ⟨RX11, "end", "(I)I"⟩
abbrev cX11_ssa : ByteArray := prog_1_method_6_code
def yX11_ssa : MethodName := ⟨RX11, "ssa", "()I"⟩
abbrev cX11_pass : ByteArray := prog_1_method_7_code
def yX11_pass : MethodName := ⟨RX11, "pass", "(I)I"⟩
abbrev cX11_plain : ByteArray := prog_1_method_8_code
def yX11_plain : MethodName := ⟨RX11, "plain", "()I"⟩
abbrev cX11_run : ByteArray := prog_1_method_9_code
def yX11_run : MethodName := ⟨RX11, "run", "(I)I"⟩
abbrev cX11_list : ByteArray := prog_1_method_14_code
def yX11_list : MethodName := ⟨RX11, "list", "()I"⟩
abbrev cX11_block : ByteArray := prog_1_method_13_code
def yX11_block : MethodName := ⟨RX11, "block", "(II)I"⟩
abbrev cX11_told : ByteArray := prog_1_method_10_code
def yX11_told : MethodName := ⟨RX11, "told", "(I)I"⟩
abbrev cX11_shown : ByteArray := prog_1_method_11_code
def yX11_shown : MethodName := ⟨RX11, "shown", "(I)I"⟩
abbrev cX11_count : ByteArray := prog_1_method_12_code
def yX11_count : MethodName := ⟨RX11, "count", "(I)I"⟩
abbrev cX11_word : ByteArray := prog_1_method_15_code
def yX11_word : MethodName := ⟨RX11, "word", "(I)J"⟩
abbrev cL_feed : ByteArray := method_3_code
def yL_feed : MethodName := ⟨RL, "feed", "(LSsaForge;IIIII[J)I"⟩
abbrev cL_end : ByteArray := method_4_code
def yL_end : MethodName := ⟨RL, "end", "(LSsaForge;I[J)I"⟩
abbrev cL_ssa : ByteArray := method_5_code
def yL_ssa : MethodName := ⟨RL, "ssa", "(LSsaForge;[J)I"⟩
abbrev cL_pass : ByteArray := method_6_code
def yL_pass : MethodName := ⟨RL, "pass", "(LSsaForge;I[J)I"⟩
abbrev cL_plain : ByteArray := method_7_code
def yL_plain : MethodName := ⟨RL, "plain", "(LSsaForge;[J)I"⟩
abbrev cL_run : ByteArray := method_8_code
def yL_run : MethodName := ⟨RL, "run", "(LSsaForge;I[J)I"⟩
abbrev cL_told : ByteArray := method_9_code
def yL_told : MethodName := ⟨RL, "told", "(LSsaForge;I[J)I"⟩
abbrev cL_shown : ByteArray := method_10_code
def yL_shown : MethodName := ⟨RL, "shown", "(LSsaForge;I[J)I"⟩
abbrev cL_count : ByteArray := method_11_code
def yL_count : MethodName := ⟨RL, "count", "(LSsaForge;I[J)I"⟩
abbrev cL_block : ByteArray := method_12_code
def yL_block : MethodName := ⟨RL, "block", "(LSsaForge;II[J)I"⟩
abbrev cL_list : ByteArray := method_13_code
def yL_list : MethodName := ⟨RL, "list", "(LSsaForge;[J)I"⟩
abbrev cL_word : ByteArray := method_14_code
def yL_word : MethodName := ⟨RL, "word", "(LSsaForge;I[J)I"⟩
abbrev cJxa1e45_init_da8c8 : ByteArray := prog_44_method_1_code
def yJxa1e45_init_da8c8 : MethodName := ⟨RJxa1e45, "<init>", "()V"⟩
abbrev cJxc12de_init_da8c8 : ByteArray := prog_45_method_1_code
def yJxc12de_init_da8c8 : MethodName := ⟨RJxc12de, "<init>", "()V"⟩
abbrev cJx4a65c_init_da8c8 : ByteArray := prog_46_method_2_code
def yJx4a65c_init_da8c8 : MethodName := ⟨RJx4a65c, "<init>", "()V"⟩
abbrev cJ5_init_d00df : ByteArray := prog_23_method_2_code
def yJ5_init_d00df : MethodName := ⟨RJ5, "<init>", "(I)V"⟩
abbrev cJ4_init_da8c8 : ByteArray := prog_38_method_1_code
def yJ4_init_da8c8 : MethodName := ⟨RJ4, "<init>", "()V"⟩
abbrev cJx4a65c_clear_da8c8 : ByteArray := prog_46_method_40_code
def yJx4a65c_clear_da8c8 : MethodName := ⟨RJx4a65c, "clear", "()V"⟩
abbrev cT3_init : ByteArray := prog_43_method_5_code
def yT3_init : MethodName := ⟨RT3, "<init>", "(Ljava/lang/String;Ljava/lang/Throwable;ZZ)V"⟩
abbrev cT2_init : ByteArray := prog_28_method_5_code
def yT2_init : MethodName := ⟨RT2, "<init>", "(Ljava/lang/String;Ljava/lang/Throwable;ZZ)V"⟩
abbrev cT1_init : ByteArray := prog_36_method_5_code
def yT1_init : MethodName := ⟨RT1, "<init>", "(Ljava/lang/String;Ljava/lang/Throwable;ZZ)V"⟩
abbrev cX18_init : ByteArray := prog_21_method_1_code
def yX18_init : MethodName := ⟨RX18, "<init>", "(I)V"⟩
abbrev cX13_init : ByteArray := prog_16_method_1_code
def yX13_init : MethodName := ⟨RX13, "<init>", "()V"⟩
abbrev cX14_init : ByteArray := prog_17_method_1_code
def yX14_init : MethodName := ⟨RX14, "<init>", "()V"⟩
abbrev cX19_init : ByteArray := prog_14_method_62_code
def yX19_init : MethodName := ⟨RX19, "<init>", "()V"⟩
abbrev cX19_no : ByteArray := prog_14_method_64_code
def yX19_no : MethodName := ⟨RX19, "no", "(I)I"⟩
abbrev cX19_word : ByteArray := prog_14_method_66_code
def yX19_word : MethodName := ⟨RX19, "word", "(II)V"⟩
abbrev cX19_feed : ByteArray := prog_14_method_65_code
def yX19_feed : MethodName := ⟨RX19, "feed", "(IIIII)I"⟩
abbrev cX19_end : ByteArray := prog_14_method_67_code
def yX19_end : MethodName := ⟨RX19, "end", "(I)I"⟩
abbrev cX19_ssa : ByteArray := prog_14_method_71_code
def yX19_ssa : MethodName := ⟨RX19, "ssa", "()I"⟩
abbrev cX19_pass : ByteArray := prog_14_method_72_code
def yX19_pass : MethodName := ⟨RX19, "pass", "(I)I"⟩
abbrev cX19_plain : ByteArray := prog_14_method_73_code
def yX19_plain : MethodName := ⟨RX19, "plain", "()I"⟩
abbrev cX19_run_ : ByteArray := prog_14_method_74_code
def yX19_run_ : MethodName := ⟨RX19, "run", "(I)I"⟩
abbrev cX19_told : ByteArray := prog_14_method_75_code
def yX19_told : MethodName := ⟨RX19, "told", "(I)I"⟩
abbrev cX19_shown : ByteArray := prog_14_method_76_code
def yX19_shown : MethodName := ⟨RX19, "shown", "(I)I"⟩
abbrev cX19_count : ByteArray := prog_14_method_77_code
def yX19_count : MethodName := ⟨RX19, "count", "(I)I"⟩
abbrev cX19_block : ByteArray := prog_14_method_78_code
def yX19_block : MethodName := ⟨RX19, "block", "(II)I"⟩
abbrev cX19_list__ : ByteArray := prog_14_method_79_code
def yX19_list__ : MethodName := ⟨RX19, "list", "()I"⟩
abbrev cX19_word_ : ByteArray := prog_14_method_80_code
def yX19_word_ : MethodName := ⟨RX19, "word", "(I)J"⟩
abbrev cX19_thrown : ByteArray := prog_14_method_63_code
def yX19_thrown : MethodName := ⟨RX19, "thrown", "()I"⟩
abbrev cX19_input : ByteArray := prog_14_method_70_code
def yX19_input : MethodName := ⟨RX19, "input", "()I"⟩
abbrev cX16_next : ByteArray := prog_19_method_4_code
def yX16_next : MethodName := ⟨RX16, "next", "()V"⟩
abbrev cX16_init : ByteArray := prog_19_method_1_code
def yX16_init : MethodName := ⟨RX16, "<init>", "([BI)V"⟩
abbrev cX13_begin : ByteArray := prog_16_method_2_code
def yX13_begin : MethodName := ⟨RX13, "begin", "()V"⟩
abbrev cX16_no : ByteArray := prog_19_method_8_code
def yX16_no : MethodName := ⟨RX16, "no", "()LSsaForgeModel$Wrong;"⟩
abbrev cX16_want_ : ByteArray := prog_19_method_11_code
def yX16_want_ : MethodName := ⟨RX16, "want", "(I)I"⟩
abbrev cX16_block : ByteArray := prog_19_method_15_code
def yX16_block : MethodName := ⟨RX16, "block", "(LSsaForgeModel$Code;)V"⟩
abbrev cX16_program : ByteArray := prog_19_method_14_code
def yX16_program : MethodName := ⟨RX16, "program", "(LSsaForgeModel$Code;)V"⟩
abbrev cX19_text : ByteArray := prog_14_method_68_code
def yX19_text : MethodName := ⟨RX19, "text", "()I"⟩
abbrev vwP : List vw_C := [(RX0, TX0, 19), (RX1, TX1, 6), (RX2, TX2, 13), (RX3, TX3, 5), (RX4, TX4, 8), (RX5, TX5, 11), (RX6, TX6, 5), (RX7, TX7, 18), (RX8, TX8, 8), (RX9, TX9, 9), (RX10, TX10, 14), (RX11, TX11, 17), (RX13, TX13, 7), (RX14, TX14, 13), (RX16, TX16, 14), (RX18, TX18, 7), (RX19, TX19, 41), (RJ4, TJ4, 4), (RJx4a65c, TJx4a65c, 3)]
end
section
theorem z_lt {x y : Int32} (h : x < y) : x.toInt < y.toInt := Int32.lt_iff_toInt_lt.mp h
theorem z_nlt {x y : Int32} (h : ¬ x < y) : y.toInt ≤ x.toInt := Int.not_lt.mp fun q => h (Int32.lt_iff_toInt_lt.mpr q)
theorem z_le {x y : Int32} (h : x ≤ y) : x.toInt ≤ y.toInt := Int32.le_iff_toInt_le.mp h
theorem z_nle {x y : Int32} (h : ¬ x ≤ y) : y.toInt < x.toInt := Int.not_le.mp fun q => h (Int32.le_iff_toInt_le.mpr q)
theorem z_eq {x y : Int32} (h : x = y) : x.toInt = y.toInt := by rw [h]
theorem z_ne {x y : Int32} (h : ¬ x = y) : ¬ x.toInt = y.toInt := fun q => h (Int32.toInt_inj.mp q)
def kf_end (p : Int32) : Int32 := if p.toInt = 0 then 0 else 1
def vf_end (p : Int32) : Int32 := p
def kf_ssa : Int32 := 1
def vf_ssa : Int32 := 0
def kf_pass (p : Int32) : Int32 := if p.toInt < 1 ∨ 7 < p.toInt then 1 else 2
def vf_pass : Int32 := 0
def kf_plain : Int32 := 1
def vf_plain : Int32 := 0
def kf_run (p : Int32) : Int32 := if p.toInt < 1 ∨ 100000 < p.toInt then 1 else 2
def vf_run : Int32 := 0
def kf_list : Int32 := 1
def vf_list : Int32 := 0
def kf_block (p : Int32) : Int32 := if p.toInt < 0 ∨ 4 < p.toInt then 1 else 2
def vf_block : Int32 := 0
def kf_told (p : Int32) : Int32 := if 0 ≤ p.toInt ∧ p.toInt ≤ 4 then 0 else 1
def vf_told (p : Int32) : Int32 := if p.toInt = 4 then -1 else 0
def kf_shown : Int32 := 1
def vf_shown : Int32 := 0
def kf_count (p : Int32) : Int32 := if 0 ≤ p.toInt ∧ p.toInt ≤ 7 then 0 else 1
def vf_count (p : Int32) : Int32 := if p.toInt = 0 then -1 else 0
def kf_word : Int32 := 1
def vf_word : Int64 := 0
def kf_feed : Int32 := 0
def vf_feed : Int32 := 20
end
section
theorem dJxa1e45_init_da8c8_0 : decode cJxa1e45_init_da8c8 0 = .ok (.aload_n 0, 1) := by decide +kernel
theorem dJxa1e45_init_da8c8_1 : decode cJxa1e45_init_da8c8 1 = .ok (.invokespecial 1, 3) := by decide +kernel
theorem dJxa1e45_init_da8c8_4 : decode cJxa1e45_init_da8c8 4 = .ok (.return_, 1) := by decide +kernel
def o_Jxa1e45_init : List Cond := [.methodLink RJxa1e45 1 objectInit, .instanceMethod objectInit, .code objectInit ⟨#[0xb1]⟩ 1 none]
def v_Jxa1e45_init : List Cond := .code yJxa1e45_init_da8c8 cJxa1e45_init_da8c8 1 none :: (o_Jxa1e45_init ++ [])
theorem mow_Jxa1e45_init : ∀ w ∈ o_Jxa1e45_init, w ∈ v_Jxa1e45_init := fun _ h => List.mem_cons_of_mem _ (List.mem_append_left _ h)
set_option maxRecDepth 20000 in
theorem gw_Jxa1e45_init : v_Jxa1e45_init.all goodWord = true := by decide +kernel
set_option maxHeartbeats 4000000 in
set_option maxRecDepth 100000 in
theorem c_Jxa1e45_init (l : Launch) (dC : Nat → ClassId) (dI : Nat → Nat → Nat) (h0 : Nat) (sz : Nat) : Met l yJxa1e45_init_da8c8 v_Jxa1e45_init ({ frames := 1, cells := 0, slots := 0, locals := 12 }) (va_Pc [.ref h0] (fun U => U.heap.size = sz ∧ va_P (dC, dI) vwP [(h0, .inr (18, [.int 0, .null, .int 0]))] U.heap ∧ va_K (dC, dI) vwP [] U ∧ va_D (fun _ => True) [(h0, .inr (18, [.int 0, .null, .int 0]))])) (va_Qv (fun _ : Unit => True) (fun (_ : Unit) (t : State) => va_P (dC, dI) vwP [(h0, .inr (18, [.int 0, .null, .int 0]))] t.heap ∧ va_K (dC, dI) vwP [] t ∧ va_D (va_A [(h0, .inr (18, [.int 0, .null, .int 0]))] sz) [(h0, .inr (18, [.int 0, .null, .int 0]))]) (va_A [(h0, .inr (18, [.int 0, .null, .int 0]))] sz)) 0 0 (va_A [(h0, .inr (18, [.int 0, .null, .int 0]))] sz) := by
  refine Met.ofW (cc := cJxa1e45_init_da8c8) (maxL := 1) (ret := none) (by decide) rfl ?_
  intro p e s m args below meth c s₁ B hml hv
  obtain ⟨rfl, hsz, hP, hK, hD0⟩ := hv
  have hx := B.exec
  have hb := B.bytes
  have hr := B.returns
  have hts := atoms_spec (ws := v_Jxa1e45_init) B.pre
  have hown : s.vm.findClass RJxa1e45 = some m.cls := findClass_of_methodNamed B.named
  have hlocks := B.notSynchronized
  have ow : ∀ {k : Nat} {w : Cond}, o_Jxa1e45_init[k]? = some w → w.before ([.ref h0] : List Value).toArray s = true := fun h => hts _ (mow_Jxa1e45_init _ (List.mem_of_getElem? h))
  have hin : meth.name = "<init>" := (name_of_methodNamed B.named B.method).1
  subst hsz
  have hD := hD0.self (sz := s.heap.size)
  generalize hAe : va_A [(h0, .inr (18, [.int 0, .null, .int 0]))] s.heap.size = A at hD ⊢
  have hA : ∀ q : Nat, s.heap.size ≤ q → A q := fun q h => by rw [← hAe]; exact Or.inr h
  have hS : va_S A s.heap s.heap [] := va_S.rf
  have hP : va_P (dC, dI) vwP [(h0, .inr (18, [.int 0, .null, .int 0]))] s.heap := hP
  have hl := lv_entry ([.ref h0]) (n := 1) (Nat.le_of_ble_eq_true rfl)
  rw [lg_entry_eq]
  generalize (lg_sl ([.ref h0]) ++ List.replicate (1 - (lg_sl ([.ref h0])).length) Slot.unset).toArray = ls at hl ⊢
  have hl : lv_has ls 1 [(0, .ref h0)] := hl
  obtain ⟨H, hH⟩ : ∃ H, H = s.heap := ⟨_, rfl⟩
  rw [← hH] at hP
  have hS : va_S A s.heap H [] := by rw [hH]; exact hS
  rw [← hH]
  refine lv_aload_n hx hb dJxa1e45_init_da8c8_0 rfl (lv_at hl 0 rfl) ?_
  refine W.objInit hx hb hown (ow (k := 0) rfl) (ow (k := 1) rfl) (ow (k := 2) rfl) rfl (by rw [hml]; exact hl.1) rfl dJxa1e45_init_da8c8_1 (Nat.le_of_ble_eq_true rfl) (Nat.le_of_ble_eq_true rfl) ?_
  refine W.eq (g2 := F0 m 4 ls []) rfl ?_
  refine W.widen (k := 0) (n := 0) (Nat.le_of_ble_eq_true rfl) (Nat.le_of_ble_eq_true rfl) ?_
  exact W.vret hx hb hr (fun t ht hW => ⟨⟨(), rfl, trivial, by rw [ht]; exact hP, va_K.moved hW.alike hK, hD⟩, hS.F ht⟩) hS.2.2 dJxa1e45_init_da8c8_4
theorem dJxc12de_init_da8c8_0 : decode cJxc12de_init_da8c8 0 = .ok (.aload_n 0, 1) := by decide +kernel
theorem dJxc12de_init_da8c8_1 : decode cJxc12de_init_da8c8 1 = .ok (.invokespecial 1, 3) := by decide +kernel
theorem dJxc12de_init_da8c8_4 : decode cJxc12de_init_da8c8 4 = .ok (.aload_n 0, 1) := by decide +kernel
theorem dJxc12de_init_da8c8_5 : decode cJxc12de_init_da8c8 5 = .ok (.iconst 0, 1) := by decide +kernel
theorem dJxc12de_init_da8c8_6 : decode cJxc12de_init_da8c8 6 = .ok (.putfield 7, 3) := by decide +kernel
theorem dJxc12de_init_da8c8_9 : decode cJxc12de_init_da8c8 9 = .ok (.return_, 1) := by decide +kernel
def o_Jxc12de_init : List Cond := [.initialized RJxa1e45, .methodLink RJxc12de 1 yJxa1e45_init_da8c8, .instanceMethod yJxa1e45_init_da8c8, .fieldLink RJxc12de 7 "java/util/AbstractList" "modCount" "I"]
def v_Jxc12de_init : List Cond := .code yJxc12de_init_da8c8 cJxc12de_init_da8c8 1 none :: (o_Jxc12de_init ++ (v_Jxa1e45_init ++ (wsJx4a65c0 ++ [])))
theorem mow_Jxc12de_init : ∀ w ∈ o_Jxc12de_init, w ∈ v_Jxc12de_init := fun _ h => List.mem_cons_of_mem _ (List.mem_append_left _ h)
theorem mem_Jxc12de_init_0 : ∀ w ∈ v_Jxa1e45_init, w ∈ v_Jxc12de_init := fun _ h => List.mem_cons_of_mem _ (List.mem_append_right _ (List.mem_append_left _ h))
theorem mem_Jxc12de_init_1 : ∀ w ∈ wsJx4a65c0, w ∈ v_Jxc12de_init := fun _ h => List.mem_cons_of_mem _ (List.mem_append_right _ (List.mem_append_right _ (List.mem_append_left _ h)))
set_option maxRecDepth 20000 in
theorem gw_Jxc12de_init : v_Jxc12de_init.all goodWord = true := by decide +kernel
set_option maxHeartbeats 4000000 in
set_option maxRecDepth 100000 in
theorem c_Jxc12de_init (l : Launch) (dC : Nat → ClassId) (dI : Nat → Nat → Nat) (h0 : Nat) (sz : Nat) : Met l yJxc12de_init_da8c8 v_Jxc12de_init ({ frames := 2, cells := 0, slots := 0, locals := 32 }) (va_Pc [.ref h0] (fun U => U.heap.size = sz ∧ va_P (dC, dI) vwP [(h0, .inr (18, [.int 0, .null, .int 0]))] U.heap ∧ va_K (dC, dI) vwP [] U ∧ va_D (fun _ => True) [(h0, .inr (18, [.int 0, .null, .int 0]))])) (va_Qv (fun _ : Unit => True) (fun (_ : Unit) (t : State) => va_P (dC, dI) vwP [(h0, .inr (18, [.int 0, .null, .int 0]))] t.heap ∧ va_K (dC, dI) vwP [] t ∧ va_D (va_A [(h0, .inr (18, [.int 0, .null, .int 0]))] sz) [(h0, .inr (18, [.int 0, .null, .int 0]))]) (va_A [(h0, .inr (18, [.int 0, .null, .int 0]))] sz)) 0 0 (va_A [(h0, .inr (18, [.int 0, .null, .int 0]))] sz) := by
  refine Met.ofW (cc := cJxc12de_init_da8c8) (maxL := 1) (ret := none) (by decide) rfl ?_
  intro p e s m args below meth c s₁ B hml hv
  obtain ⟨rfl, hsz, hP, hK, hD0⟩ := hv
  have hx := B.exec
  have hb := B.bytes
  have hr := B.returns
  have hts := atoms_spec (ws := v_Jxc12de_init) B.pre
  have hown : s.vm.findClass RJxc12de = some m.cls := findClass_of_methodNamed B.named
  have hlocks := B.notSynchronized
  have ow : ∀ {k : Nat} {w : Cond}, o_Jxc12de_init[k]? = some w → w.before ([.ref h0] : List Value).toArray s = true := fun h => hts _ (mow_Jxc12de_init _ (List.mem_of_getElem? h))
  have hin : meth.name = "<init>" := (name_of_methodNamed B.named B.method).1
  subst hsz
  have hD := hD0.self (sz := s.heap.size)
  generalize hAe : va_A [(h0, .inr (18, [.int 0, .null, .int 0]))] s.heap.size = A at hD ⊢
  have hA : ∀ q : Nat, s.heap.size ≤ q → A q := fun q h => by rw [← hAe]; exact Or.inr h
  have hS : va_S A s.heap s.heap [] := va_S.rf
  have hP : va_P (dC, dI) vwP [(h0, .inr (18, [.int 0, .null, .int 0]))] s.heap := hP
  have hl := lv_entry ([.ref h0]) (n := 1) (Nat.le_of_ble_eq_true rfl)
  rw [lg_entry_eq]
  generalize (lg_sl ([.ref h0]) ++ List.replicate (1 - (lg_sl ([.ref h0])).length) Slot.unset).toArray = ls at hl ⊢
  have hl : lv_has ls 1 [(0, .ref h0)] := hl
  obtain ⟨H, hH⟩ : ∃ H, H = s.heap := ⟨_, rfl⟩
  rw [← hH] at hP
  have hS : va_S A s.heap H [] := by rw [hH]; exact hS
  rw [← hH]
  refine lv_aload_n hx hb dJxc12de_init_da8c8_0 rfl (lv_at hl 0 rfl) ?_
  have hPc := hP.sub (ws' := [(h0, .inr (18, [.int 0, .null, .int 0]))]) [0] rfl
  have hDc := hD.sub (ws' := [(h0, .inr (18, [.int 0, .null, .int 0]))]) [0] (by decide) rfl
  have hKc := hK.sub (tys' := []) [] rfl
  have hFc := va_free (wc := [(h0, .inr (18, [.int 0, .null, .int 0]))]) hD hS hA [0] rfl
  refine va_callv (va_runI (As := []) (rest := []) ⟨hx, hb, hml, hown, hts⟩ (c_Jxa1e45_init l dC dI h0 H.size) (cwI 0 hts (goodIn_sub mem_Jxc12de_init_0 gw_Jxa1e45_init) rfl rfl rfl (ow (k := 0) rfl) (ow (k := 1) rfl) (ow (k := 2) rfl) rfl (by decide +kernel) ⟨(Nat.le_of_ble_eq_true rfl), (Nat.le_of_ble_eq_true rfl)⟩) ⟨fun a U g mk q => by obtain ⟨q0, q1, qP, qK, qD⟩ := q; exact ⟨q0, q1, qP, va_K.moved (u := U) (U := U.calling g mk a) (Vm.Alike.refl U.vm) qK, qD⟩, fun U hU hW => ⟨rfl, by rw [hU], by rw [hU]; exact hPc, va_K.moved hW.alike hKc, hDc.weaken (fun _ _ _ _ => trivial)⟩⟩ rfl rfl hl.1 rfl (lv_room (Nat.le_of_ble_eq_true rfl)) dJxc12de_init_da8c8_1 ⟨(Nat.le_of_ble_eq_true rfl), (Nat.le_of_ble_eq_true rfl)⟩) hS (fun q _ h => hFc q h) hFc (fun  u t H1 locs ht hvm hw hB hz1 hk1 hS => ?_)
  obtain ⟨hP1, hK1, hD1⟩ := hB
  rw [ht] at hP1
  have hK1 := va_K.moved hvm.symm hK1
  obtain ⟨hP, hD⟩ := va_join (wr := []) (w1 := [(h0, .inr (18, [.int 0, .null, .int 0]))]) hP hD [0] [] rfl rfl (by decide) (by decide) hk1 hFc hP1 hD1
  have hK := (hK.sub (tys' := []) [] rfl).app hK1
  generalize H1 = H at hP hS ⊢
  have hP : va_P (dC, dI) vwP [(h0, .inr (18, [.int 0, .null, .int 0]))] H := hP
  have hD : va_D A [(h0, .inr (18, [.int 0, .null, .int 0]))] := hD
  have hK : va_K (dC, dI) vwP [] s := hK
  refine W.widen (k := 0) (n := 0) (Nat.le_of_ble_eq_true rfl) (Nat.le_of_ble_eq_true rfl) ?_
  refine lv_aload_n hx hb dJxc12de_init_da8c8_4 rfl (lv_at hl 0 rfl) ?_
  refine lv_iconst (v := 0) hx hb dJxc12de_init_da8c8_5 (by decide) ?_
  refine va_put (D := (dC, dI)) (ci := 18) (v := .int 0) (ty := .int) (C := RJx4a65c) (T := TJx4a65c) (N := 3) hx hb hts mem_Jxc12de_init_1 tyJx4a65c tyJx4a65c_ok nmJx4a65c hown hK hP hD hS 0 rfl rfl 0 (by decide) (ow (k := 3) rfl) (fun _ h9 => h9) rfl (by decide +kernel) rfl rfl (Nat.le_of_ble_eq_true rfl) dJxc12de_init_da8c8_6 (fun H locs hP hD hS => ?_)
  have hP : va_P (dC, dI) vwP [(h0, .inr (18, [.int 0, .null, .int 0]))] H := hP
  have hD : va_D A [(h0, .inr (18, [.int 0, .null, .int 0]))] := hD
  refine W.widen (k := 0) (n := 0) (Nat.le_of_ble_eq_true rfl) (Nat.le_of_ble_eq_true rfl) ?_
  exact W.vret hx hb hr (fun t ht hW => ⟨⟨(), rfl, trivial, by rw [ht]; exact hP, va_K.moved hW.alike hK, hD⟩, hS.F ht⟩) hS.2.2 dJxc12de_init_da8c8_9
theorem dJx4a65c_init_da8c8_0 : decode cJx4a65c_init_da8c8 0 = .ok (.aload_n 0, 1) := by decide +kernel
theorem dJx4a65c_init_da8c8_1 : decode cJx4a65c_init_da8c8 1 = .ok (.invokespecial 1, 3) := by decide +kernel
theorem dJx4a65c_init_da8c8_4 : decode cJx4a65c_init_da8c8 4 = .ok (.aload_n 0, 1) := by decide +kernel
theorem dJx4a65c_init_da8c8_5 : decode cJx4a65c_init_da8c8 5 = .ok (.getstatic 39, 3) := by decide +kernel
theorem dJx4a65c_init_da8c8_8 : decode cJx4a65c_init_da8c8 8 = .ok (.putfield 9, 3) := by decide +kernel
theorem dJx4a65c_init_da8c8_11 : decode cJx4a65c_init_da8c8 11 = .ok (.return_, 1) := by decide +kernel
def o_Jx4a65c_init : List Cond := [.initialized RJxc12de, .methodLink RJx4a65c 1 yJxc12de_init_da8c8, .instanceMethod yJxc12de_init_da8c8, .fieldLink RJx4a65c 39 "java/util/ArrayList" "DEFAULTCAPACITY_EMPTY_ELEMENTDATA" "[Ljava/lang/Object;", .fieldLink RJx4a65c 9 "java/util/ArrayList" "elementData" "[Ljava/lang/Object;"]
def v_Jx4a65c_init : List Cond := .code yJx4a65c_init_da8c8 cJx4a65c_init_da8c8 1 none :: (o_Jx4a65c_init ++ (v_Jxc12de_init ++ (wsJx4a65c0 ++ [])))
theorem mow_Jx4a65c_init : ∀ w ∈ o_Jx4a65c_init, w ∈ v_Jx4a65c_init := fun _ h => List.mem_cons_of_mem _ (List.mem_append_left _ h)
theorem mem_Jx4a65c_init_0 : ∀ w ∈ v_Jxc12de_init, w ∈ v_Jx4a65c_init := fun _ h => List.mem_cons_of_mem _ (List.mem_append_right _ (List.mem_append_left _ h))
theorem mem_Jx4a65c_init_1 : ∀ w ∈ wsJx4a65c0, w ∈ v_Jx4a65c_init := fun _ h => List.mem_cons_of_mem _ (List.mem_append_right _ (List.mem_append_right _ (List.mem_append_left _ h)))
set_option maxRecDepth 20000 in
theorem gw_Jx4a65c_init : v_Jx4a65c_init.all goodWord = true := by decide +kernel
set_option maxHeartbeats 4000000 in
set_option maxRecDepth 100000 in
theorem c_Jx4a65c_init (l : Launch) (dC : Nat → ClassId) (dI : Nat → Nat → Nat) (h0 : Nat) (sz : Nat) (sx_ed : Nat) : Met l yJx4a65c_init_da8c8 v_Jx4a65c_init ({ frames := 3, cells := 0, slots := 0, locals := 52 }) (va_Pc [.ref h0] (fun U => U.heap.size = sz ∧ va_P (dC, dI) vwP [(h0, .inr (18, [.int 0, .null, .int 0]))] U.heap ∧ va_K (dC, dI) vwP [] U ∧ va_D (fun _ => True) [(h0, .inr (18, [.int 0, .null, .int 0]))] ∧ va_Z "java/util/ArrayList" "DEFAULTCAPACITY_EMPTY_ELEMENTDATA" "[Ljava/lang/Object;" (.ref sx_ed) (va_A [(h0, .inr (18, [.int 0, .null, .int 0]))] sz) U U.heap)) (va_Qv (fun _ : Unit => True) (fun (_ : Unit) (t : State) => va_P (dC, dI) vwP [(h0, .inr (18, [.int 0, .ref sx_ed, .int 0]))] t.heap ∧ va_K (dC, dI) vwP [] t ∧ va_D (va_A [(h0, .inr (18, [.int 0, .null, .int 0]))] sz) [(h0, .inr (18, [.int 0, .ref sx_ed, .int 0]))]) (va_A [(h0, .inr (18, [.int 0, .null, .int 0]))] sz)) 0 0 (va_A [(h0, .inr (18, [.int 0, .null, .int 0]))] sz) := by
  refine Met.ofW (cc := cJx4a65c_init_da8c8) (maxL := 1) (ret := none) (by decide) rfl ?_
  intro p e s m args below meth c s₁ B hml hv
  obtain ⟨rfl, hsz, hP, hK, hD0, hp0⟩ := hv
  have hx := B.exec
  have hb := B.bytes
  have hr := B.returns
  have hts := atoms_spec (ws := v_Jx4a65c_init) B.pre
  have hown : s.vm.findClass RJx4a65c = some m.cls := findClass_of_methodNamed B.named
  have hlocks := B.notSynchronized
  have ow : ∀ {k : Nat} {w : Cond}, o_Jx4a65c_init[k]? = some w → w.before ([.ref h0] : List Value).toArray s = true := fun h => hts _ (mow_Jx4a65c_init _ (List.mem_of_getElem? h))
  have hin : meth.name = "<init>" := (name_of_methodNamed B.named B.method).1
  subst hsz
  have hD := hD0.self (sz := s.heap.size)
  generalize hAe : va_A [(h0, .inr (18, [.int 0, .null, .int 0]))] s.heap.size = A at hD hp0 ⊢
  have hA : ∀ q : Nat, s.heap.size ≤ q → A q := fun q h => by rw [← hAe]; exact Or.inr h
  have hS : va_S A s.heap s.heap [] := va_S.rf
  have hP : va_P (dC, dI) vwP [(h0, .inr (18, [.int 0, .null, .int 0]))] s.heap := hP
  have hl := lv_entry ([.ref h0]) (n := 1) (Nat.le_of_ble_eq_true rfl)
  rw [lg_entry_eq]
  generalize (lg_sl ([.ref h0]) ++ List.replicate (1 - (lg_sl ([.ref h0])).length) Slot.unset).toArray = ls at hl ⊢
  have hl : lv_has ls 1 [(0, .ref h0)] := hl
  obtain ⟨H, hH⟩ : ∃ H, H = s.heap := ⟨_, rfl⟩
  rw [← hH] at hP
  have hS : va_S A s.heap H [] := by rw [hH]; exact hS
  rw [← hH]
  refine lv_aload_n hx hb dJx4a65c_init_da8c8_0 rfl (lv_at hl 0 rfl) ?_
  have hPc := hP.sub (ws' := [(h0, .inr (18, [.int 0, .null, .int 0]))]) [0] rfl
  have hDc := hD.sub (ws' := [(h0, .inr (18, [.int 0, .null, .int 0]))]) [0] (by decide) rfl
  have hKc := hK.sub (tys' := []) [] rfl
  have hFc := va_free (wc := [(h0, .inr (18, [.int 0, .null, .int 0]))]) hD hS hA [0] rfl
  refine va_callv (va_runI (As := []) (rest := []) ⟨hx, hb, hml, hown, hts⟩ (c_Jxc12de_init l dC dI h0 H.size) (cwI 0 hts (goodIn_sub mem_Jx4a65c_init_0 gw_Jxc12de_init) rfl rfl rfl (ow (k := 0) rfl) (ow (k := 1) rfl) (ow (k := 2) rfl) rfl (by decide +kernel) ⟨(Nat.le_of_ble_eq_true rfl), (Nat.le_of_ble_eq_true rfl)⟩) ⟨fun a U g mk q => by obtain ⟨q0, q1, qP, qK, qD⟩ := q; exact ⟨q0, q1, qP, va_K.moved (u := U) (U := U.calling g mk a) (Vm.Alike.refl U.vm) qK, qD⟩, fun U hU hW => ⟨rfl, by rw [hU], by rw [hU]; exact hPc, va_K.moved hW.alike hKc, hDc.weaken (fun _ _ _ _ => trivial)⟩⟩ rfl rfl hl.1 rfl (lv_room (Nat.le_of_ble_eq_true rfl)) dJx4a65c_init_da8c8_1 ⟨(Nat.le_of_ble_eq_true rfl), (Nat.le_of_ble_eq_true rfl)⟩) hS (fun q _ h => hFc q h) hFc (fun  u t H1 locs ht hvm hw hB hz1 hk1 hS => ?_)
  obtain ⟨hP1, hK1, hD1⟩ := hB
  rw [ht] at hP1
  have hK1 := va_K.moved hvm.symm hK1
  obtain ⟨hP, hD⟩ := va_join (wr := []) (w1 := [(h0, .inr (18, [.int 0, .null, .int 0]))]) hP hD [0] [] rfl rfl (by decide) (by decide) hk1 hFc hP1 hD1
  have hK := (hK.sub (tys' := []) [] rfl).app hK1
  generalize H1 = H at hP hS ⊢
  have hP : va_P (dC, dI) vwP [(h0, .inr (18, [.int 0, .null, .int 0]))] H := hP
  have hD : va_D A [(h0, .inr (18, [.int 0, .null, .int 0]))] := hD
  have hK : va_K (dC, dI) vwP [] s := hK
  refine W.widen (k := 0) (n := 0) (Nat.le_of_ble_eq_true rfl) (Nat.le_of_ble_eq_true rfl) ?_
  refine lv_aload_n hx hb dJx4a65c_init_da8c8_4 rfl (lv_at hl 0 rfl) ?_
  refine va_gets (v := .ref sx_ed) hx hb hp0 hS hown (ow (k := 3) rfl) (fun _ h9 => h9) dJx4a65c_init_da8c8_5 ?_
  refine va_put (D := (dC, dI)) (ci := 18) (v := .ref sx_ed) (ty := .array (.object "java/lang/Object")) (C := RJx4a65c) (T := TJx4a65c) (N := 3) hx hb hts mem_Jx4a65c_init_1 tyJx4a65c tyJx4a65c_ok nmJx4a65c hown hK hP hD hS 0 rfl rfl 1 (by decide) (ow (k := 4) rfl) (fun _ h9 => h9) rfl (by decide +kernel) rfl rfl (Nat.le_of_ble_eq_true rfl) dJx4a65c_init_da8c8_8 (fun H locs hP hD hS => ?_)
  have hP : va_P (dC, dI) vwP [(h0, .inr (18, [.int 0, .ref sx_ed, .int 0]))] H := hP
  have hD : va_D A [(h0, .inr (18, [.int 0, .ref sx_ed, .int 0]))] := hD
  refine W.widen (k := 0) (n := 0) (Nat.le_of_ble_eq_true rfl) (Nat.le_of_ble_eq_true rfl) ?_
  exact W.vret hx hb hr (fun t ht hW => ⟨⟨(), rfl, trivial, by rw [ht]; exact hP, va_K.moved hW.alike hK, hD⟩, hS.F ht⟩) hS.2.2 dJx4a65c_init_da8c8_11
theorem dJ5_init_d00df_0 : decode cJ5_init_d00df 0 = .ok (.aload_n 0, 1) := by decide +kernel
theorem dJ5_init_d00df_1 : decode cJ5_init_d00df 1 = .ok (.invokespecial 3, 3) := by decide +kernel
theorem dJ5_init_d00df_4 : decode cJ5_init_d00df 4 = .ok (.getstatic 18, 3) := by decide +kernel
theorem dJ5_init_d00df_7 : decode cJ5_init_d00df 7 = .ok (.ifCond .eq 18, 3) := by decide +kernel
theorem dJ5_init_d00df_10 : decode cJ5_init_d00df 10 = .ok (.aload_n 0, 1) := by decide +kernel
theorem dJ5_init_d00df_11 : decode cJ5_init_d00df 11 = .ok (.iload_n 1, 1) := by decide +kernel
theorem dJ5_init_d00df_12 : decode cJ5_init_d00df 12 = .ok (.newarray .byte, 2) := by decide +kernel
theorem dJ5_init_d00df_14 : decode cJ5_init_d00df 14 = .ok (.putfield 15, 3) := by decide +kernel
theorem dJ5_init_d00df_17 : decode cJ5_init_d00df 17 = .ok (.aload_n 0, 1) := by decide +kernel
theorem dJ5_init_d00df_18 : decode cJ5_init_d00df 18 = .ok (.iconst 0, 1) := by decide +kernel
theorem dJ5_init_d00df_19 : decode cJ5_init_d00df 19 = .ok (.putfield 22, 3) := by decide +kernel
theorem dJ5_init_d00df_22 : decode cJ5_init_d00df 22 = .ok (.goto 16, 3) := by decide +kernel
theorem dJ5_init_d00df_38 : decode cJ5_init_d00df 38 = .ok (.return_, 1) := by decide +kernel
def o_J5_init : List Cond := [.methodLink RJ5 3 objectInit, .instanceMethod objectInit, .code objectInit ⟨#[0xb1]⟩ 1 none, .fieldLink RJ5 18 "java/lang/String" "COMPACT_STRINGS" "Z", .arrayClass .byte, .fieldLink RJ5 15 "java/lang/AbstractStringBuilder" "value" "[B", .fieldLink RJ5 22 "java/lang/AbstractStringBuilder" "coder" "B"]
def v_J5_init : List Cond := .code yJ5_init_d00df cJ5_init_d00df 2 none :: (o_J5_init ++ (wsJ40 ++ []))
theorem mow_J5_init : ∀ w ∈ o_J5_init, w ∈ v_J5_init := fun _ h => List.mem_cons_of_mem _ (List.mem_append_left _ h)
theorem mem_J5_init_0 : ∀ w ∈ wsJ40, w ∈ v_J5_init := fun _ h => List.mem_cons_of_mem _ (List.mem_append_right _ (List.mem_append_left _ h))
set_option maxRecDepth 20000 in
theorem gw_J5_init : v_J5_init.all goodWord = true := by decide +kernel
set_option maxHeartbeats 4000000 in
set_option maxRecDepth 100000 in
theorem c_J5_init (l : Launch) (dC : Nat → ClassId) (dI : Nat → Nat → Nat) (h0 : Nat) (sz : Nat) : Met l yJ5_init_d00df v_J5_init ({ frames := 1, cells := 1, slots := 16, locals := 12 }) (va_Pc [.ref h0, .int 16] (fun U => U.heap.size = sz ∧ va_P (dC, dI) vwP [(h0, .inr (17, [.null, .int 0, .int 0, .int 0]))] U.heap ∧ va_K (dC, dI) vwP [] U ∧ va_D (fun _ => True) [(h0, .inr (17, [.null, .int 0, .int 0, .int 0]))] ∧ va_Z "java/lang/String" "COMPACT_STRINGS" "Z" (.int 1) (va_A [(h0, .inr (17, [.null, .int 0, .int 0, .int 0]))] sz) U U.heap)) (va_Qv (fun _ : Unit => True) (fun (_ : Unit) (t : State) => ∃ (q_1 : Nat) (cA_2 : ClassId), va_P (dC, dI) vwP [(h0, .inr (17, [.ref q_1, .int 0, .int 0, .int 0])), (q_1, .inl (cA_2, 16, .inl (fun _ => 0)))] t.heap ∧ va_K (dC, dI) vwP [(cA_2, .byte)] t ∧ va_D (va_A [(h0, .inr (17, [.null, .int 0, .int 0, .int 0]))] sz) [(h0, .inr (17, [.ref q_1, .int 0, .int 0, .int 0])), (q_1, .inl (cA_2, 16, .inl (fun _ => 0)))]) (va_A [(h0, .inr (17, [.null, .int 0, .int 0, .int 0]))] sz)) 1 16 (va_A [(h0, .inr (17, [.null, .int 0, .int 0, .int 0]))] sz) := by
  refine Met.ofW (cc := cJ5_init_d00df) (maxL := 2) (ret := none) (by decide) rfl ?_
  intro p e s m args below meth c s₁ B hml hv
  obtain ⟨rfl, hsz, hP, hK, hD0, hp0⟩ := hv
  have hx := B.exec
  have hb := B.bytes
  have hr := B.returns
  have hts := atoms_spec (ws := v_J5_init) B.pre
  have hown : s.vm.findClass RJ5 = some m.cls := findClass_of_methodNamed B.named
  have hlocks := B.notSynchronized
  have ow : ∀ {k : Nat} {w : Cond}, o_J5_init[k]? = some w → w.before ([.ref h0, .int 16] : List Value).toArray s = true := fun h => hts _ (mow_J5_init _ (List.mem_of_getElem? h))
  have hin : meth.name = "<init>" := (name_of_methodNamed B.named B.method).1
  subst hsz
  have hD := hD0.self (sz := s.heap.size)
  generalize hAe : va_A [(h0, .inr (17, [.null, .int 0, .int 0, .int 0]))] s.heap.size = A at hD hp0 ⊢
  have hA : ∀ q : Nat, s.heap.size ≤ q → A q := fun q h => by rw [← hAe]; exact Or.inr h
  have hS : va_S A s.heap s.heap [] := va_S.rf
  have hP : va_P (dC, dI) vwP [(h0, .inr (17, [.null, .int 0, .int 0, .int 0]))] s.heap := hP
  have hl := lv_entry ([.ref h0, .int 16]) (n := 2) (Nat.le_of_ble_eq_true rfl)
  rw [lg_entry_eq]
  generalize (lg_sl ([.ref h0, .int 16]) ++ List.replicate (2 - (lg_sl ([.ref h0, .int 16])).length) Slot.unset).toArray = ls at hl ⊢
  have hl : lv_has ls 2 [(0, .ref h0), (1, .int 16)] := hl
  obtain ⟨H, hH⟩ : ∃ H, H = s.heap := ⟨_, rfl⟩
  rw [← hH] at hP
  have hS : va_S A s.heap H [] := by rw [hH]; exact hS
  rw [← hH]
  refine lv_aload_n hx hb dJ5_init_d00df_0 rfl (lv_at hl 0 rfl) ?_
  refine W.objInit hx hb hown (ow (k := 0) rfl) (ow (k := 1) rfl) (ow (k := 2) rfl) rfl (by rw [hml]; exact hl.1) rfl dJ5_init_d00df_1 (Nat.le_of_ble_eq_true rfl) (Nat.le_of_ble_eq_true rfl) ?_
  refine W.eq (g2 := F0 m 4 ls []) rfl ?_
  refine va_gets (v := .int 1) hx hb hp0 hS hown (ow (k := 3) rfl) (fun _ h9 => h9) dJ5_init_d00df_4 ?_
  refine lv_if_eq (tgt := 25) hx hb dJ5_init_d00df_7 (by decide) (fun h9 => absurd h9 (by decide)) (fun _ => ?_)
  refine lv_aload_n hx hb dJ5_init_d00df_10 rfl (lv_at hl 0 rfl) ?_
  refine lv_iload_n hx hb dJ5_init_d00df_11 rfl (lv_at hl 1 rfl) ?_
  refine va_newa (ty := .byte) (n := 16) (N' := 16) (a0 := (16, .inl (fun _ => 0))) hx hb (ow (k := 4) rfl) rfl hK hP hD hS hA (fun _ => rfl) (by decide) (by decide) (by decide) (Nat.le_of_ble_eq_true rfl) (Nat.le_of_ble_eq_true rfl) dJ5_init_d00df_12 (fun q_1 cA_2 H hK hP hD hS => ?_)
  have hP : va_P (dC, dI) vwP [(h0, .inr (17, [.null, .int 0, .int 0, .int 0])), (q_1, .inl (cA_2, 16, .inl (fun _ => 0)))] H := hP
  have hD : va_D A [(h0, .inr (17, [.null, .int 0, .int 0, .int 0])), (q_1, .inl (cA_2, 16, .inl (fun _ => 0)))] := hD
  have hK : va_K (dC, dI) vwP [(cA_2, .byte)] s := hK
  refine W.widen (k := 1) (n := 16) (Nat.le_of_ble_eq_true rfl) (Nat.le_of_ble_eq_true rfl) ?_
  refine va_put (D := (dC, dI)) (ci := 17) (v := .ref q_1) (ty := .array .byte) (C := RJ4) (T := TJ4) (N := 4) hx hb hts mem_J5_init_0 tyJ4 tyJ4_ok nmJ4 hown hK hP hD hS 0 rfl rfl 0 (by decide) (ow (k := 5) rfl) (fun _ h9 => h9) rfl (by decide +kernel) rfl rfl (Nat.le_of_ble_eq_true rfl) dJ5_init_d00df_14 (fun H locs hP hD hS => ?_)
  have hP : va_P (dC, dI) vwP [(h0, .inr (17, [.ref q_1, .int 0, .int 0, .int 0])), (q_1, .inl (cA_2, 16, .inl (fun _ => 0)))] H := hP
  have hD : va_D A [(h0, .inr (17, [.ref q_1, .int 0, .int 0, .int 0])), (q_1, .inl (cA_2, 16, .inl (fun _ => 0)))] := hD
  refine lv_aload_n hx hb dJ5_init_d00df_17 rfl (lv_at hl 0 rfl) ?_
  refine lv_iconst (v := 0) hx hb dJ5_init_d00df_18 (by decide) ?_
  refine va_put (D := (dC, dI)) (ci := 17) (v := .int 0) (ty := .byte) (C := RJ4) (T := TJ4) (N := 4) hx hb hts mem_J5_init_0 tyJ4 tyJ4_ok nmJ4 hown hK hP hD hS 0 rfl rfl 1 (by decide) (ow (k := 6) rfl) (fun _ h9 => h9) rfl (by decide +kernel) rfl rfl (Nat.le_of_ble_eq_true rfl) dJ5_init_d00df_19 (fun H locs hP hD hS => ?_)
  have hP : va_P (dC, dI) vwP [(h0, .inr (17, [.ref q_1, .int 0, .int 0, .int 0])), (q_1, .inl (cA_2, 16, .inl (fun _ => 0)))] H := hP
  have hD : va_D A [(h0, .inr (17, [.ref q_1, .int 0, .int 0, .int 0])), (q_1, .inl (cA_2, 16, .inl (fun _ => 0)))] := hD
  refine lv_goto (tgt := 38) hx hb dJ5_init_d00df_22 (by decide) ?_
  refine W.widen (k := 1) (n := 16) (Nat.le_of_ble_eq_true rfl) (Nat.le_of_ble_eq_true rfl) ?_
  exact W.vret hx hb hr (fun t ht hW => ⟨⟨(), rfl, trivial, q_1, cA_2, by rw [ht]; exact hP, va_K.moved hW.alike hK, hD⟩, hS.F ht⟩) hS.2.2 dJ5_init_d00df_38
theorem dJ4_init_da8c8_0 : decode cJ4_init_da8c8 0 = .ok (.aload_n 0, 1) := by decide +kernel
theorem dJ4_init_da8c8_1 : decode cJ4_init_da8c8 1 = .ok (.bipush 16, 2) := by decide +kernel
theorem dJ4_init_da8c8_3 : decode cJ4_init_da8c8 3 = .ok (.invokespecial 1, 3) := by decide +kernel
theorem dJ4_init_da8c8_6 : decode cJ4_init_da8c8 6 = .ok (.return_, 1) := by decide +kernel
def o_J4_init : List Cond := [.initialized RJ5, .methodLink RJ4 1 yJ5_init_d00df, .instanceMethod yJ5_init_d00df]
def v_J4_init : List Cond := .code yJ4_init_da8c8 cJ4_init_da8c8 1 none :: (o_J4_init ++ (v_J5_init ++ []))
theorem mow_J4_init : ∀ w ∈ o_J4_init, w ∈ v_J4_init := fun _ h => List.mem_cons_of_mem _ (List.mem_append_left _ h)
theorem mem_J4_init_0 : ∀ w ∈ v_J5_init, w ∈ v_J4_init := fun _ h => List.mem_cons_of_mem _ (List.mem_append_right _ (List.mem_append_left _ h))
set_option maxRecDepth 20000 in
theorem gw_J4_init : v_J4_init.all goodWord = true := by decide +kernel
set_option maxHeartbeats 4000000 in
set_option maxRecDepth 100000 in
theorem c_J4_init (l : Launch) (dC : Nat → ClassId) (dI : Nat → Nat → Nat) (h0 : Nat) (sz : Nat) : Met l yJ4_init_da8c8 v_J4_init ({ frames := 2, cells := 1, slots := 16, locals := 33 }) (va_Pc [.ref h0] (fun U => U.heap.size = sz ∧ va_P (dC, dI) vwP [(h0, .inr (17, [.null, .int 0, .int 0, .int 0]))] U.heap ∧ va_K (dC, dI) vwP [] U ∧ va_D (fun _ => True) [(h0, .inr (17, [.null, .int 0, .int 0, .int 0]))] ∧ va_Z "java/lang/String" "COMPACT_STRINGS" "Z" (.int 1) (va_A [(h0, .inr (17, [.null, .int 0, .int 0, .int 0]))] sz) U U.heap)) (va_Qv (fun _ : Unit => True) (fun (_ : Unit) (t : State) => ∃ (q_1 : Nat) (cA_2 : ClassId), va_P (dC, dI) vwP [(h0, .inr (17, [.ref q_1, .int 0, .int 0, .int 0])), (q_1, .inl (cA_2, 16, .inl (fun _ => 0)))] t.heap ∧ va_K (dC, dI) vwP [(cA_2, .byte)] t ∧ va_D (va_A [(h0, .inr (17, [.null, .int 0, .int 0, .int 0]))] sz) [(h0, .inr (17, [.ref q_1, .int 0, .int 0, .int 0])), (q_1, .inl (cA_2, 16, .inl (fun _ => 0)))]) (va_A [(h0, .inr (17, [.null, .int 0, .int 0, .int 0]))] sz)) 1 16 (va_A [(h0, .inr (17, [.null, .int 0, .int 0, .int 0]))] sz) := by
  refine Met.ofW (cc := cJ4_init_da8c8) (maxL := 1) (ret := none) (by decide) rfl ?_
  intro p e s m args below meth c s₁ B hml hv
  obtain ⟨rfl, hsz, hP, hK, hD0, hp0⟩ := hv
  have hx := B.exec
  have hb := B.bytes
  have hr := B.returns
  have hts := atoms_spec (ws := v_J4_init) B.pre
  have hown : s.vm.findClass RJ4 = some m.cls := findClass_of_methodNamed B.named
  have hlocks := B.notSynchronized
  have ow : ∀ {k : Nat} {w : Cond}, o_J4_init[k]? = some w → w.before ([.ref h0] : List Value).toArray s = true := fun h => hts _ (mow_J4_init _ (List.mem_of_getElem? h))
  have hin : meth.name = "<init>" := (name_of_methodNamed B.named B.method).1
  subst hsz
  have hD := hD0.self (sz := s.heap.size)
  generalize hAe : va_A [(h0, .inr (17, [.null, .int 0, .int 0, .int 0]))] s.heap.size = A at hD hp0 ⊢
  have hA : ∀ q : Nat, s.heap.size ≤ q → A q := fun q h => by rw [← hAe]; exact Or.inr h
  have hS : va_S A s.heap s.heap [] := va_S.rf
  have hP : va_P (dC, dI) vwP [(h0, .inr (17, [.null, .int 0, .int 0, .int 0]))] s.heap := hP
  have hl := lv_entry ([.ref h0]) (n := 1) (Nat.le_of_ble_eq_true rfl)
  rw [lg_entry_eq]
  generalize (lg_sl ([.ref h0]) ++ List.replicate (1 - (lg_sl ([.ref h0])).length) Slot.unset).toArray = ls at hl ⊢
  have hl : lv_has ls 1 [(0, .ref h0)] := hl
  obtain ⟨H, hH⟩ : ∃ H, H = s.heap := ⟨_, rfl⟩
  rw [← hH] at hP
  have hS : va_S A s.heap H [] := by rw [hH]; exact hS
  rw [← hH]
  refine lv_aload_n hx hb dJ4_init_da8c8_0 rfl (lv_at hl 0 rfl) ?_
  refine lv_bipush (v := 16) hx hb dJ4_init_da8c8_1 (by decide) ?_
  have hPc := hP.sub (ws' := [(h0, .inr (17, [.null, .int 0, .int 0, .int 0]))]) [0] rfl
  have hDc := hD.sub (ws' := [(h0, .inr (17, [.null, .int 0, .int 0, .int 0]))]) [0] (by decide) rfl
  have hKc := hK.sub (tys' := []) [] rfl
  have hFc := va_free (wc := [(h0, .inr (17, [.null, .int 0, .int 0, .int 0]))]) hD hS hA [0] rfl
  refine va_callv (va_runI (As := [.int 16]) (rest := []) ⟨hx, hb, hml, hown, hts⟩ (c_J5_init l dC dI h0 H.size) (cwI 1 hts (goodIn_sub mem_J4_init_0 gw_J5_init) rfl rfl rfl (ow (k := 0) rfl) (ow (k := 1) rfl) (ow (k := 2) rfl) rfl (by decide +kernel) ⟨(Nat.le_of_ble_eq_true rfl), (Nat.le_of_ble_eq_true rfl)⟩) ⟨fun a U g mk q => by obtain ⟨q0, q1, qP, qK, qD, e0⟩ := q; exact ⟨q0, q1, qP, va_K.moved (u := U) (U := U.calling g mk a) (Vm.Alike.refl U.vm) qK, qD, va_Z.moved (u := U) (U := U.calling g mk a) (Vm.Alike.refl U.vm) e0⟩, fun U hU hW => ⟨rfl, by rw [hU], by rw [hU]; exact hPc, va_K.moved hW.alike hKc, hDc.weaken (fun _ _ _ _ => trivial), by rw [hU]; exact va_Z.narrow (va_Z.moved hW.alike (va_Z.kept hp0 hS.2.1)) hFc⟩⟩ rfl rfl hl.1 rfl (lv_room (Nat.le_of_ble_eq_true rfl)) dJ4_init_da8c8_3 ⟨(Nat.le_of_ble_eq_true rfl), (Nat.le_of_ble_eq_true rfl)⟩) hS (fun q _ h => hFc q h) hFc (fun  u t H1 locs ht hvm hw hB hz1 hk1 hS => ?_)
  obtain ⟨q_1, cA_2, hP1, hK1, hD1⟩ := hB
  rw [ht] at hP1
  have hK1 := va_K.moved hvm.symm hK1
  obtain ⟨hP, hD⟩ := va_join (wr := []) (w1 := [(h0, .inr (17, [.ref q_1, .int 0, .int 0, .int 0])), (q_1, .inl (cA_2, 16, .inl (fun _ => 0)))]) hP hD [0] [] rfl rfl (by decide) (by decide) hk1 hFc hP1 hD1
  have hK := (hK.sub (tys' := []) [] rfl).app hK1
  generalize H1 = H at hP hS ⊢
  have hP : va_P (dC, dI) vwP [(h0, .inr (17, [.ref q_1, .int 0, .int 0, .int 0])), (q_1, .inl (cA_2, 16, .inl (fun _ => 0)))] H := hP
  have hD : va_D A [(h0, .inr (17, [.ref q_1, .int 0, .int 0, .int 0])), (q_1, .inl (cA_2, 16, .inl (fun _ => 0)))] := hD
  have hK : va_K (dC, dI) vwP [(cA_2, .byte)] s := hK
  refine W.widen (k := 1) (n := 16) (Nat.le_of_ble_eq_true rfl) (Nat.le_of_ble_eq_true rfl) ?_
  refine W.widen (k := 1) (n := 16) (Nat.le_of_ble_eq_true rfl) (Nat.le_of_ble_eq_true rfl) ?_
  exact W.vret hx hb hr (fun t ht hW => ⟨⟨(), rfl, trivial, q_1, cA_2, by rw [ht]; exact hP, va_K.moved hW.alike hK, hD⟩, hS.F ht⟩) hS.2.2 dJ4_init_da8c8_6
theorem dJx4a65c_clear_da8c8_0 : decode cJx4a65c_clear_da8c8 0 = .ok (.aload_n 0, 1) := by decide +kernel
theorem dJx4a65c_clear_da8c8_1 : decode cJx4a65c_clear_da8c8 1 = .ok (.dup, 1) := by decide +kernel
theorem dJx4a65c_clear_da8c8_2 : decode cJx4a65c_clear_da8c8 2 = .ok (.getfield 63, 3) := by decide +kernel
theorem dJx4a65c_clear_da8c8_5 : decode cJx4a65c_clear_da8c8 5 = .ok (.iconst 1, 1) := by decide +kernel
theorem dJx4a65c_clear_da8c8_6 : decode cJx4a65c_clear_da8c8 6 = .ok (.iadd, 1) := by decide +kernel
theorem dJx4a65c_clear_da8c8_7 : decode cJx4a65c_clear_da8c8 7 = .ok (.putfield 63, 3) := by decide +kernel
theorem dJx4a65c_clear_da8c8_10 : decode cJx4a65c_clear_da8c8 10 = .ok (.aload_n 0, 1) := by decide +kernel
theorem dJx4a65c_clear_da8c8_11 : decode cJx4a65c_clear_da8c8 11 = .ok (.getfield 9, 3) := by decide +kernel
theorem dJx4a65c_clear_da8c8_14 : decode cJx4a65c_clear_da8c8 14 = .ok (.astore_n 1, 1) := by decide +kernel
theorem dJx4a65c_clear_da8c8_15 : decode cJx4a65c_clear_da8c8 15 = .ok (.aload_n 0, 1) := by decide +kernel
theorem dJx4a65c_clear_da8c8_16 : decode cJx4a65c_clear_da8c8 16 = .ok (.getfield 48, 3) := by decide +kernel
theorem dJx4a65c_clear_da8c8_19 : decode cJx4a65c_clear_da8c8 19 = .ok (.istore_n 2, 1) := by decide +kernel
theorem dJx4a65c_clear_da8c8_20 : decode cJx4a65c_clear_da8c8 20 = .ok (.aload_n 0, 1) := by decide +kernel
theorem dJx4a65c_clear_da8c8_21 : decode cJx4a65c_clear_da8c8 21 = .ok (.iconst 0, 1) := by decide +kernel
theorem dJx4a65c_clear_da8c8_22 : decode cJx4a65c_clear_da8c8 22 = .ok (.dup_x1, 1) := by decide +kernel
theorem dJx4a65c_clear_da8c8_23 : decode cJx4a65c_clear_da8c8 23 = .ok (.putfield 48, 3) := by decide +kernel
theorem dJx4a65c_clear_da8c8_26 : decode cJx4a65c_clear_da8c8 26 = .ok (.istore_n 3, 1) := by decide +kernel
theorem dJx4a65c_clear_da8c8_27 : decode cJx4a65c_clear_da8c8 27 = .ok (.iload_n 3, 1) := by decide +kernel
theorem dJx4a65c_clear_da8c8_28 : decode cJx4a65c_clear_da8c8 28 = .ok (.iload_n 2, 1) := by decide +kernel
theorem dJx4a65c_clear_da8c8_29 : decode cJx4a65c_clear_da8c8 29 = .ok (.if_icmp .ge 13, 3) := by decide +kernel
theorem dJx4a65c_clear_da8c8_42 : decode cJx4a65c_clear_da8c8 42 = .ok (.return_, 1) := by decide +kernel
def o_AL_clear : List Cond := [.fieldLink RJx4a65c 63 "java/util/ArrayList" "modCount" "I", .sameField "java/util/ArrayList" "java/util/AbstractList" "modCount" "I", .fieldLink RJx4a65c 9 "java/util/ArrayList" "elementData" "[Ljava/lang/Object;", .fieldLink RJx4a65c 48 "java/util/ArrayList" "size" "I"]
def v_AL_clear : List Cond := .code yJx4a65c_clear_da8c8 cJx4a65c_clear_da8c8 4 none :: (o_AL_clear ++ (wsJx4a65c0 ++ []))
theorem mow_AL_clear : ∀ w ∈ o_AL_clear, w ∈ v_AL_clear := fun _ h => List.mem_cons_of_mem _ (List.mem_append_left _ h)
theorem mem_AL_clear_0 : ∀ w ∈ wsJx4a65c0, w ∈ v_AL_clear := fun _ h => List.mem_cons_of_mem _ (List.mem_append_right _ (List.mem_append_left _ h))
set_option maxRecDepth 20000 in
theorem gw_AL_clear : v_AL_clear.all goodWord = true := by decide +kernel
set_option maxHeartbeats 4000000 in
set_option maxRecDepth 100000 in
theorem c_AL_clear (l : Launch) (dC : Nat → ClassId) (dI : Nat → Nat → Nat) (h0 : Nat) (sx_ed : Nat) (sz : Nat) : Met l yJx4a65c_clear_da8c8 v_AL_clear ({ frames := 0, cells := 0, slots := 0, locals := 0 }) (va_Pc [.ref h0] (fun U => U.heap.size = sz ∧ va_P (dC, dI) vwP [(h0, .inr (18, [.int 0, .ref sx_ed, .int 0]))] U.heap ∧ va_K (dC, dI) vwP [] U ∧ va_D (fun _ => True) [(h0, .inr (18, [.int 0, .ref sx_ed, .int 0]))])) (va_Qv (fun _ : Unit => True) (fun (_ : Unit) (t : State) => va_P (dC, dI) vwP [(h0, .inr (18, [.int 1, .ref sx_ed, .int 0]))] t.heap ∧ va_K (dC, dI) vwP [] t ∧ va_D (va_A [(h0, .inr (18, [.int 0, .ref sx_ed, .int 0]))] sz) [(h0, .inr (18, [.int 1, .ref sx_ed, .int 0]))]) (va_A [(h0, .inr (18, [.int 0, .ref sx_ed, .int 0]))] sz)) 0 0 (va_A [(h0, .inr (18, [.int 0, .ref sx_ed, .int 0]))] sz) := by
  refine Met.ofW (cc := cJx4a65c_clear_da8c8) (maxL := 4) (ret := none) (by decide) rfl ?_
  intro p e s m args below meth c s₁ B hml hv
  obtain ⟨rfl, hsz, hP, hK, hD0⟩ := hv
  have hx := B.exec
  have hb := B.bytes
  have hr := B.returns
  have hts := atoms_spec (ws := v_AL_clear) B.pre
  have hown : s.vm.findClass RJx4a65c = some m.cls := findClass_of_methodNamed B.named
  have hlocks := B.notSynchronized
  have ow : ∀ {k : Nat} {w : Cond}, o_AL_clear[k]? = some w → w.before ([.ref h0] : List Value).toArray s = true := fun h => hts _ (mow_AL_clear _ (List.mem_of_getElem? h))
  subst hsz
  have hD := hD0.self (sz := s.heap.size)
  generalize hAe : va_A [(h0, .inr (18, [.int 0, .ref sx_ed, .int 0]))] s.heap.size = A at hD ⊢
  have hA : ∀ q : Nat, s.heap.size ≤ q → A q := fun q h => by rw [← hAe]; exact Or.inr h
  have hS : va_S A s.heap s.heap [] := va_S.rf
  have hP : va_P (dC, dI) vwP [(h0, .inr (18, [.int 0, .ref sx_ed, .int 0]))] s.heap := hP
  have hl := lv_entry ([.ref h0]) (n := 4) (Nat.le_of_ble_eq_true rfl)
  rw [lg_entry_eq]
  generalize (lg_sl ([.ref h0]) ++ List.replicate (4 - (lg_sl ([.ref h0])).length) Slot.unset).toArray = ls at hl ⊢
  have hl : lv_has ls 4 [(0, .ref h0)] := hl
  obtain ⟨H, hH⟩ : ∃ H, H = s.heap := ⟨_, rfl⟩
  rw [← hH] at hP
  have hS : va_S A s.heap H [] := by rw [hH]; exact hS
  rw [← hH]
  refine lv_aload_n hx hb dJx4a65c_clear_da8c8_0 rfl (lv_at hl 0 rfl) ?_
  refine lv_dup hx hb dJx4a65c_clear_da8c8_1 rfl ?_
  refine va_get (D := (dC, dI)) (ci := 18) (v := .int 0) (C := RJx4a65c) (T := TJx4a65c) (N := 3) hx hb hts mem_AL_clear_0 hown hK hP 0 rfl rfl 0 (by decide) (ow (k := 0) rfl) (fun x9 h9 => u_same (ow (k := 1) rfl) x9 h9) rfl dJx4a65c_clear_da8c8_2 ?_
  refine lv_iconst (v := 1) hx hb dJx4a65c_clear_da8c8_5 (by decide) ?_
  refine lv_iadd hx hb dJx4a65c_clear_da8c8_6 ?_
  refine lv_topi (fun z ez => ?_)
  obtain rfl : z = 1 := by rw [ez]; decide
  refine va_put (D := (dC, dI)) (ci := 18) (v := .int 1) (ty := .int) (C := RJx4a65c) (T := TJx4a65c) (N := 3) hx hb hts mem_AL_clear_0 tyJx4a65c tyJx4a65c_ok nmJx4a65c hown hK hP hD hS 0 rfl rfl 0 (by decide) (ow (k := 0) rfl) (fun x9 h9 => u_same (ow (k := 1) rfl) x9 h9) rfl (by decide +kernel) rfl rfl (Nat.le_of_ble_eq_true rfl) dJx4a65c_clear_da8c8_7 (fun H locs hP hD hS => ?_)
  have hP : va_P (dC, dI) vwP [(h0, .inr (18, [.int 1, .ref sx_ed, .int 0]))] H := hP
  have hD : va_D A [(h0, .inr (18, [.int 1, .ref sx_ed, .int 0]))] := hD
  refine lv_aload_n hx hb dJx4a65c_clear_da8c8_10 rfl (lv_at hl 0 rfl) ?_
  refine va_get (D := (dC, dI)) (ci := 18) (v := .ref sx_ed) (C := RJx4a65c) (T := TJx4a65c) (N := 3) hx hb hts mem_AL_clear_0 hown hK hP 0 rfl rfl 1 (by decide) (ow (k := 2) rfl) (fun _ h9 => h9) rfl dJx4a65c_clear_da8c8_11 ?_
  refine lv_astore_n (lv' := [(1, .ref sx_ed), (0, .ref h0)]) hx hb dJx4a65c_clear_da8c8_14 rfl hl (by decide) rfl (fun ls hl => ?_)
  refine lv_aload_n hx hb dJx4a65c_clear_da8c8_15 rfl (lv_at hl 1 rfl) ?_
  refine va_get (D := (dC, dI)) (ci := 18) (v := .int 0) (C := RJx4a65c) (T := TJx4a65c) (N := 3) hx hb hts mem_AL_clear_0 hown hK hP 0 rfl rfl 2 (by decide) (ow (k := 3) rfl) (fun _ h9 => h9) rfl dJx4a65c_clear_da8c8_16 ?_
  refine lv_istore_n (lv' := [(2, .int 0), (1, .ref sx_ed), (0, .ref h0)]) hx hb dJx4a65c_clear_da8c8_19 rfl hl (by decide) rfl (fun ls hl => ?_)
  refine lv_aload_n hx hb dJx4a65c_clear_da8c8_20 rfl (lv_at hl 2 rfl) ?_
  refine lv_iconst (v := 0) hx hb dJx4a65c_clear_da8c8_21 (by decide) ?_
  refine lv_dup_x1 hx hb dJx4a65c_clear_da8c8_22 rfl rfl ?_
  refine va_put (D := (dC, dI)) (ci := 18) (v := .int 0) (ty := .int) (C := RJx4a65c) (T := TJx4a65c) (N := 3) hx hb hts mem_AL_clear_0 tyJx4a65c tyJx4a65c_ok nmJx4a65c hown hK hP hD hS 0 rfl rfl 2 (by decide) (ow (k := 3) rfl) (fun _ h9 => h9) rfl (by decide +kernel) rfl rfl (Nat.le_of_ble_eq_true rfl) dJx4a65c_clear_da8c8_23 (fun H locs hP hD hS => ?_)
  have hP : va_P (dC, dI) vwP [(h0, .inr (18, [.int 1, .ref sx_ed, .int 0]))] H := hP
  have hD : va_D A [(h0, .inr (18, [.int 1, .ref sx_ed, .int 0]))] := hD
  refine lv_istore_n (lv' := [(3, .int 0), (2, .int 0), (1, .ref sx_ed), (0, .ref h0)]) hx hb dJx4a65c_clear_da8c8_26 rfl hl (by decide) rfl (fun ls hl => ?_)
  refine lv_iload_n hx hb dJx4a65c_clear_da8c8_27 rfl (lv_at hl 0 rfl) ?_
  refine lv_iload_n hx hb dJx4a65c_clear_da8c8_28 rfl (lv_at hl 1 rfl) ?_
  refine lv_icmp_ge (tgt := 42) hx hb dJx4a65c_clear_da8c8_29 (by decide) (fun _ => ?_) (fun h9 => absurd h9 (by decide))
  refine W.widen (k := 0) (n := 0) (Nat.le_of_ble_eq_true rfl) (Nat.le_of_ble_eq_true rfl) ?_
  exact W.vret hx hb hr (fun t ht hW => ⟨⟨(), rfl, trivial, by rw [ht]; exact hP, va_K.moved hW.alike hK, hD⟩, hS.F ht⟩) hS.2.2 dJx4a65c_clear_da8c8_42
theorem dT3_init_0 : decode cT3_init 0 = .ok (.aload_n 0, 1) := by decide +kernel
theorem dT3_init_1 : decode cT3_init 1 = .ok (.invokespecial 1, 3) := by decide +kernel
theorem dT3_init_4 : decode cT3_init 4 = .ok (.aload_n 0, 1) := by decide +kernel
theorem dT3_init_5 : decode cT3_init 5 = .ok (.aload_n 0, 1) := by decide +kernel
theorem dT3_init_6 : decode cT3_init 6 = .ok (.putfield 7, 3) := by decide +kernel
theorem dT3_init_9 : decode cT3_init 9 = .ok (.aload_n 0, 1) := by decide +kernel
theorem dT3_init_10 : decode cT3_init 10 = .ok (.getstatic 13, 3) := by decide +kernel
theorem dT3_init_13 : decode cT3_init 13 = .ok (.putfield 17, 3) := by decide +kernel
theorem dT3_init_16 : decode cT3_init 16 = .ok (.aload_n 0, 1) := by decide +kernel
theorem dT3_init_17 : decode cT3_init 17 = .ok (.getstatic 20, 3) := by decide +kernel
theorem dT3_init_20 : decode cT3_init 20 = .ok (.putfield 24, 3) := by decide +kernel
theorem dT3_init_23 : decode cT3_init 23 = .ok (.iload 4, 2) := by decide +kernel
theorem dT3_init_25 : decode cT3_init 25 = .ok (.ifCond .eq 11, 3) := by decide +kernel
theorem dT3_init_36 : decode cT3_init 36 = .ok (.aload_n 0, 1) := by decide +kernel
theorem dT3_init_37 : decode cT3_init 37 = .ok (.aconst_null, 1) := by decide +kernel
theorem dT3_init_38 : decode cT3_init 38 = .ok (.putfield 17, 3) := by decide +kernel
theorem dT3_init_41 : decode cT3_init 41 = .ok (.aload_n 0, 1) := by decide +kernel
theorem dT3_init_42 : decode cT3_init 42 = .ok (.aload_n 1, 1) := by decide +kernel
theorem dT3_init_43 : decode cT3_init 43 = .ok (.putfield 31, 3) := by decide +kernel
theorem dT3_init_46 : decode cT3_init 46 = .ok (.aload_n 0, 1) := by decide +kernel
theorem dT3_init_47 : decode cT3_init 47 = .ok (.aload_n 2, 1) := by decide +kernel
theorem dT3_init_48 : decode cT3_init 48 = .ok (.putfield 7, 3) := by decide +kernel
theorem dT3_init_51 : decode cT3_init 51 = .ok (.iload_n 3, 1) := by decide +kernel
theorem dT3_init_52 : decode cT3_init 52 = .ok (.ifCond .ne 8, 3) := by decide +kernel
theorem dT3_init_55 : decode cT3_init 55 = .ok (.aload_n 0, 1) := by decide +kernel
theorem dT3_init_56 : decode cT3_init 56 = .ok (.aconst_null, 1) := by decide +kernel
theorem dT3_init_57 : decode cT3_init 57 = .ok (.putfield 24, 3) := by decide +kernel
theorem dT3_init_60 : decode cT3_init 60 = .ok (.return_, 1) := by decide +kernel
def o_T3_init : List Cond := [.methodLink RT3 1 objectInit, .instanceMethod objectInit, .code objectInit ⟨#[0xb1]⟩ 1 none, .fieldLink RT3 7 "java/lang/Throwable" "cause" "Ljava/lang/Throwable;", .fieldLink RT3 13 "java/lang/Throwable" "UNASSIGNED_STACK" "[Ljava/lang/StackTraceElement;", .fieldLink RT3 17 "java/lang/Throwable" "stackTrace" "[Ljava/lang/StackTraceElement;", .fieldLink RT3 20 "java/lang/Throwable" "SUPPRESSED_SENTINEL" "Ljava/util/List;", .fieldLink RT3 24 "java/lang/Throwable" "suppressedExceptions" "Ljava/util/List;", .fieldLink RT3 31 "java/lang/Throwable" "detailMessage" "Ljava/lang/String;"]
def v_T3_init : List Cond := .code yT3_init cT3_init 5 none :: (o_T3_init ++ (wsX180 ++ []))
theorem mow_T3_init : ∀ w ∈ o_T3_init, w ∈ v_T3_init := fun _ h => List.mem_cons_of_mem _ (List.mem_append_left _ h)
theorem mem_T3_init_0 : ∀ w ∈ wsX180, w ∈ v_T3_init := fun _ h => List.mem_cons_of_mem _ (List.mem_append_right _ (List.mem_append_left _ h))
set_option maxRecDepth 20000 in
theorem gw_T3_init : v_T3_init.all goodWord = true := by decide +kernel
set_option maxHeartbeats 4000000 in
set_option maxRecDepth 100000 in
theorem c_T3_init (l : Launch) (dC : Nat → ClassId) (dI : Nat → Nat → Nat) (h0 : Nat) (sz : Nat) : Met l yT3_init v_T3_init ({ frames := 1, cells := 0, slots := 0, locals := 12 }) (va_Pc [.ref h0, .null, .null, .int 0, .int 0] (fun U => U.heap.size = sz ∧ va_P (dC, dI) vwP [(h0, .inr (15, [.null, .null, .null, .null, .null, .int 0, .int 0]))] U.heap ∧ va_K (dC, dI) vwP [] U ∧ va_D (fun _ => True) [(h0, .inr (15, [.null, .null, .null, .null, .null, .int 0, .int 0]))] ∧ vx_Zq Bundle.tN "UNASSIGNED_STACK" Bundle.steD (va_A [(h0, .inr (15, [.null, .null, .null, .null, .null, .int 0, .int 0]))] sz) U U.heap ∧ vx_Zq Bundle.tN "SUPPRESSED_SENTINEL" Bundle.listD (va_A [(h0, .inr (15, [.null, .null, .null, .null, .null, .int 0, .int 0]))] sz) U U.heap)) (va_Qv (fun _ : Unit => True) (fun (_ : Unit) (t : State) => va_P (dC, dI) vwP [(h0, .inr (15, [.null, .null, .null, .null, .null, .int 0, .int 0]))] t.heap ∧ va_K (dC, dI) vwP [] t ∧ va_D (va_A [(h0, .inr (15, [.null, .null, .null, .null, .null, .int 0, .int 0]))] sz) [(h0, .inr (15, [.null, .null, .null, .null, .null, .int 0, .int 0]))]) (va_A [(h0, .inr (15, [.null, .null, .null, .null, .null, .int 0, .int 0]))] sz)) 0 0 (va_A [(h0, .inr (15, [.null, .null, .null, .null, .null, .int 0, .int 0]))] sz) := by
  refine Met.ofW (cc := cT3_init) (maxL := 5) (ret := none) (by decide) rfl ?_
  intro p e s m args below meth c s₁ B hml hv
  obtain ⟨rfl, hsz, hP, hK, hD0, hp0, hp1⟩ := hv
  have hx := B.exec
  have hb := B.bytes
  have hr := B.returns
  have hts := atoms_spec (ws := v_T3_init) B.pre
  have hown : s.vm.findClass RT3 = some m.cls := findClass_of_methodNamed B.named
  have hlocks := B.notSynchronized
  have ow : ∀ {k : Nat} {w : Cond}, o_T3_init[k]? = some w → w.before ([.ref h0, .null, .null, .int 0, .int 0] : List Value).toArray s = true := fun h => hts _ (mow_T3_init _ (List.mem_of_getElem? h))
  have hin : meth.name = "<init>" := (name_of_methodNamed B.named B.method).1
  subst hsz
  have hD := hD0.self (sz := s.heap.size)
  generalize hAe : va_A [(h0, .inr (15, [.null, .null, .null, .null, .null, .int 0, .int 0]))] s.heap.size = A at hD hp0 hp1 ⊢
  have hA : ∀ q : Nat, s.heap.size ≤ q → A q := fun q h => by rw [← hAe]; exact Or.inr h
  have hS : va_S A s.heap s.heap [] := va_S.rf
  have hP : va_P (dC, dI) vwP [(h0, .inr (15, [.null, .null, .null, .null, .null, .int 0, .int 0]))] s.heap := hP
  have hl := lv_entry ([.ref h0, .null, .null, .int 0, .int 0]) (n := 5) (Nat.le_of_ble_eq_true rfl)
  rw [lg_entry_eq]
  generalize (lg_sl ([.ref h0, .null, .null, .int 0, .int 0]) ++ List.replicate (5 - (lg_sl ([.ref h0, .null, .null, .int 0, .int 0])).length) Slot.unset).toArray = ls at hl ⊢
  have hl : lv_has ls 5 [(0, .ref h0), (1, .null), (2, .null), (3, .int 0), (4, .int 0)] := hl
  obtain ⟨H, hH⟩ : ∃ H, H = s.heap := ⟨_, rfl⟩
  rw [← hH] at hP
  have hS : va_S A s.heap H [] := by rw [hH]; exact hS
  rw [← hH]
  refine lv_aload_n hx hb dT3_init_0 rfl (lv_at hl 0 rfl) ?_
  refine W.objInit hx hb hown (ow (k := 0) rfl) (ow (k := 1) rfl) (ow (k := 2) rfl) rfl (by rw [hml]; exact hl.1) rfl dT3_init_1 (Nat.le_of_ble_eq_true rfl) (Nat.le_of_ble_eq_true rfl) ?_
  refine W.eq (g2 := F0 m 4 ls []) rfl ?_
  refine lv_aload_n hx hb dT3_init_4 rfl (lv_at hl 0 rfl) ?_
  refine lv_aload_n hx hb dT3_init_5 rfl (lv_at hl 0 rfl) ?_
  refine va_put (D := (dC, dI)) (ci := 15) (v := .ref h0) (ty := .object "java/lang/Throwable") (C := RX18) (T := TX18) (N := 7) hx hb hts mem_T3_init_0 tyX18 tyX18_ok nmX18 hown hK hP hD hS 0 rfl rfl 0 (by decide) (ow (k := 3) rfl) (fun _ h9 => h9) rfl (by decide +kernel) rfl rfl (Nat.le_of_ble_eq_true rfl) dT3_init_6 (fun H locs hP hD hS => ?_)
  have hP : va_P (dC, dI) vwP [(h0, .inr (15, [.ref h0, .null, .null, .null, .null, .int 0, .int 0]))] H := hP
  have hD : va_D A [(h0, .inr (15, [.ref h0, .null, .null, .null, .null, .int 0, .int 0]))] := hD
  refine lv_aload_n hx hb dT3_init_9 rfl (lv_at hl 0 rfl) ?_
  rcases hp0.1 with hz_2 | ⟨tz_1, hz_2⟩
  · refine va_gets (v := .null) hx hb hz_2 hS hown (ow (k := 4) rfl) (fun _ h9 => h9) dT3_init_10 ?_
    refine va_put (D := (dC, dI)) (ci := 15) (v := .null) (ty := .array (.object "java/lang/StackTraceElement")) (C := RX18) (T := TX18) (N := 7) hx hb hts mem_T3_init_0 tyX18 tyX18_ok nmX18 hown hK hP hD hS 0 rfl rfl 1 (by decide) (ow (k := 5) rfl) (fun _ h9 => h9) rfl (by decide +kernel) rfl rfl (Nat.le_of_ble_eq_true rfl) dT3_init_13 (fun H locs hP hD hS => ?_)
    have hP : va_P (dC, dI) vwP [(h0, .inr (15, [.ref h0, .null, .null, .null, .null, .int 0, .int 0]))] H := hP
    have hD : va_D A [(h0, .inr (15, [.ref h0, .null, .null, .null, .null, .int 0, .int 0]))] := hD
    refine lv_aload_n hx hb dT3_init_16 rfl (lv_at hl 0 rfl) ?_
    rcases hp1.1 with hz_4 | ⟨tz_3, hz_4⟩
    · refine va_gets (v := .null) hx hb hz_4 hS hown (ow (k := 6) rfl) (fun _ h9 => h9) dT3_init_17 ?_
      refine va_put (D := (dC, dI)) (ci := 15) (v := .null) (ty := .object "java/util/List") (C := RX18) (T := TX18) (N := 7) hx hb hts mem_T3_init_0 tyX18 tyX18_ok nmX18 hown hK hP hD hS 0 rfl rfl 2 (by decide) (ow (k := 7) rfl) (fun _ h9 => h9) rfl (by decide +kernel) rfl rfl (Nat.le_of_ble_eq_true rfl) dT3_init_20 (fun H locs hP hD hS => ?_)
      have hP : va_P (dC, dI) vwP [(h0, .inr (15, [.ref h0, .null, .null, .null, .null, .int 0, .int 0]))] H := hP
      have hD : va_D A [(h0, .inr (15, [.ref h0, .null, .null, .null, .null, .int 0, .int 0]))] := hD
      refine lv_iload hx hb dT3_init_23 (lv_at hl 4 rfl) ?_
      refine lv_if_eq (tgt := 36) hx hb dT3_init_25 (by decide) (fun _ => ?_) (fun h9 => absurd h9 (by decide))
      refine lv_aload_n hx hb dT3_init_36 rfl (lv_at hl 0 rfl) ?_
      refine lv_null hx hb dT3_init_37 ?_
      refine va_put (D := (dC, dI)) (ci := 15) (v := .null) (ty := .array (.object "java/lang/StackTraceElement")) (C := RX18) (T := TX18) (N := 7) hx hb hts mem_T3_init_0 tyX18 tyX18_ok nmX18 hown hK hP hD hS 0 rfl rfl 1 (by decide) (ow (k := 5) rfl) (fun _ h9 => h9) rfl (by decide +kernel) rfl rfl (Nat.le_of_ble_eq_true rfl) dT3_init_38 (fun H locs hP hD hS => ?_)
      have hP : va_P (dC, dI) vwP [(h0, .inr (15, [.ref h0, .null, .null, .null, .null, .int 0, .int 0]))] H := hP
      have hD : va_D A [(h0, .inr (15, [.ref h0, .null, .null, .null, .null, .int 0, .int 0]))] := hD
      refine lv_aload_n hx hb dT3_init_41 rfl (lv_at hl 0 rfl) ?_
      refine lv_aload_nN hx hb dT3_init_42 rfl (lv_at hl 1 rfl) ?_
      refine va_put (D := (dC, dI)) (ci := 15) (v := .null) (ty := .object "java/lang/String") (C := RX18) (T := TX18) (N := 7) hx hb hts mem_T3_init_0 tyX18 tyX18_ok nmX18 hown hK hP hD hS 0 rfl rfl 3 (by decide) (ow (k := 8) rfl) (fun _ h9 => h9) rfl (by decide +kernel) rfl rfl (Nat.le_of_ble_eq_true rfl) dT3_init_43 (fun H locs hP hD hS => ?_)
      have hP : va_P (dC, dI) vwP [(h0, .inr (15, [.ref h0, .null, .null, .null, .null, .int 0, .int 0]))] H := hP
      have hD : va_D A [(h0, .inr (15, [.ref h0, .null, .null, .null, .null, .int 0, .int 0]))] := hD
      refine lv_aload_n hx hb dT3_init_46 rfl (lv_at hl 0 rfl) ?_
      refine lv_aload_nN hx hb dT3_init_47 rfl (lv_at hl 2 rfl) ?_
      refine va_put (D := (dC, dI)) (ci := 15) (v := .null) (ty := .object "java/lang/Throwable") (C := RX18) (T := TX18) (N := 7) hx hb hts mem_T3_init_0 tyX18 tyX18_ok nmX18 hown hK hP hD hS 0 rfl rfl 0 (by decide) (ow (k := 3) rfl) (fun _ h9 => h9) rfl (by decide +kernel) rfl rfl (Nat.le_of_ble_eq_true rfl) dT3_init_48 (fun H locs hP hD hS => ?_)
      have hP : va_P (dC, dI) vwP [(h0, .inr (15, [.null, .null, .null, .null, .null, .int 0, .int 0]))] H := hP
      have hD : va_D A [(h0, .inr (15, [.null, .null, .null, .null, .null, .int 0, .int 0]))] := hD
      refine lv_iload_n hx hb dT3_init_51 rfl (lv_at hl 3 rfl) ?_
      refine lv_if_ne (tgt := 60) hx hb dT3_init_52 (by decide) (fun h9 => absurd h9 (by decide)) (fun _ => ?_)
      refine lv_aload_n hx hb dT3_init_55 rfl (lv_at hl 0 rfl) ?_
      refine lv_null hx hb dT3_init_56 ?_
      refine va_put (D := (dC, dI)) (ci := 15) (v := .null) (ty := .object "java/util/List") (C := RX18) (T := TX18) (N := 7) hx hb hts mem_T3_init_0 tyX18 tyX18_ok nmX18 hown hK hP hD hS 0 rfl rfl 2 (by decide) (ow (k := 7) rfl) (fun _ h9 => h9) rfl (by decide +kernel) rfl rfl (Nat.le_of_ble_eq_true rfl) dT3_init_57 (fun H locs hP hD hS => ?_)
      have hP : va_P (dC, dI) vwP [(h0, .inr (15, [.null, .null, .null, .null, .null, .int 0, .int 0]))] H := hP
      have hD : va_D A [(h0, .inr (15, [.null, .null, .null, .null, .null, .int 0, .int 0]))] := hD
      refine W.widen (k := 0) (n := 0) (Nat.le_of_ble_eq_true rfl) (Nat.le_of_ble_eq_true rfl) ?_
      exact W.vret hx hb hr (fun t ht hW => ⟨⟨(), rfl, trivial, by rw [ht]; exact hP, va_K.moved hW.alike hK, hD⟩, hS.F ht⟩) hS.2.2 dT3_init_60
    · refine va_gets (v := .ref tz_3) hx hb hz_4 hS hown (ow (k := 6) rfl) (fun _ h9 => h9) dT3_init_17 ?_
      refine va_put (D := (dC, dI)) (ci := 15) (v := .ref tz_3) (ty := .object "java/util/List") (C := RX18) (T := TX18) (N := 7) hx hb hts mem_T3_init_0 tyX18 tyX18_ok nmX18 hown hK hP hD hS 0 rfl rfl 2 (by decide) (ow (k := 7) rfl) (fun _ h9 => h9) rfl (by decide +kernel) rfl rfl (Nat.le_of_ble_eq_true rfl) dT3_init_20 (fun H locs hP hD hS => ?_)
      have hP : va_P (dC, dI) vwP [(h0, .inr (15, [.ref h0, .null, .ref tz_3, .null, .null, .int 0, .int 0]))] H := hP
      have hD : va_D A [(h0, .inr (15, [.ref h0, .null, .ref tz_3, .null, .null, .int 0, .int 0]))] := hD
      refine lv_iload hx hb dT3_init_23 (lv_at hl 4 rfl) ?_
      refine lv_if_eq (tgt := 36) hx hb dT3_init_25 (by decide) (fun _ => ?_) (fun h9 => absurd h9 (by decide))
      refine lv_aload_n hx hb dT3_init_36 rfl (lv_at hl 0 rfl) ?_
      refine lv_null hx hb dT3_init_37 ?_
      refine va_put (D := (dC, dI)) (ci := 15) (v := .null) (ty := .array (.object "java/lang/StackTraceElement")) (C := RX18) (T := TX18) (N := 7) hx hb hts mem_T3_init_0 tyX18 tyX18_ok nmX18 hown hK hP hD hS 0 rfl rfl 1 (by decide) (ow (k := 5) rfl) (fun _ h9 => h9) rfl (by decide +kernel) rfl rfl (Nat.le_of_ble_eq_true rfl) dT3_init_38 (fun H locs hP hD hS => ?_)
      have hP : va_P (dC, dI) vwP [(h0, .inr (15, [.ref h0, .null, .ref tz_3, .null, .null, .int 0, .int 0]))] H := hP
      have hD : va_D A [(h0, .inr (15, [.ref h0, .null, .ref tz_3, .null, .null, .int 0, .int 0]))] := hD
      refine lv_aload_n hx hb dT3_init_41 rfl (lv_at hl 0 rfl) ?_
      refine lv_aload_nN hx hb dT3_init_42 rfl (lv_at hl 1 rfl) ?_
      refine va_put (D := (dC, dI)) (ci := 15) (v := .null) (ty := .object "java/lang/String") (C := RX18) (T := TX18) (N := 7) hx hb hts mem_T3_init_0 tyX18 tyX18_ok nmX18 hown hK hP hD hS 0 rfl rfl 3 (by decide) (ow (k := 8) rfl) (fun _ h9 => h9) rfl (by decide +kernel) rfl rfl (Nat.le_of_ble_eq_true rfl) dT3_init_43 (fun H locs hP hD hS => ?_)
      have hP : va_P (dC, dI) vwP [(h0, .inr (15, [.ref h0, .null, .ref tz_3, .null, .null, .int 0, .int 0]))] H := hP
      have hD : va_D A [(h0, .inr (15, [.ref h0, .null, .ref tz_3, .null, .null, .int 0, .int 0]))] := hD
      refine lv_aload_n hx hb dT3_init_46 rfl (lv_at hl 0 rfl) ?_
      refine lv_aload_nN hx hb dT3_init_47 rfl (lv_at hl 2 rfl) ?_
      refine va_put (D := (dC, dI)) (ci := 15) (v := .null) (ty := .object "java/lang/Throwable") (C := RX18) (T := TX18) (N := 7) hx hb hts mem_T3_init_0 tyX18 tyX18_ok nmX18 hown hK hP hD hS 0 rfl rfl 0 (by decide) (ow (k := 3) rfl) (fun _ h9 => h9) rfl (by decide +kernel) rfl rfl (Nat.le_of_ble_eq_true rfl) dT3_init_48 (fun H locs hP hD hS => ?_)
      have hP : va_P (dC, dI) vwP [(h0, .inr (15, [.null, .null, .ref tz_3, .null, .null, .int 0, .int 0]))] H := hP
      have hD : va_D A [(h0, .inr (15, [.null, .null, .ref tz_3, .null, .null, .int 0, .int 0]))] := hD
      refine lv_iload_n hx hb dT3_init_51 rfl (lv_at hl 3 rfl) ?_
      refine lv_if_ne (tgt := 60) hx hb dT3_init_52 (by decide) (fun h9 => absurd h9 (by decide)) (fun _ => ?_)
      refine lv_aload_n hx hb dT3_init_55 rfl (lv_at hl 0 rfl) ?_
      refine lv_null hx hb dT3_init_56 ?_
      refine va_put (D := (dC, dI)) (ci := 15) (v := .null) (ty := .object "java/util/List") (C := RX18) (T := TX18) (N := 7) hx hb hts mem_T3_init_0 tyX18 tyX18_ok nmX18 hown hK hP hD hS 0 rfl rfl 2 (by decide) (ow (k := 7) rfl) (fun _ h9 => h9) rfl (by decide +kernel) rfl rfl (Nat.le_of_ble_eq_true rfl) dT3_init_57 (fun H locs hP hD hS => ?_)
      have hP : va_P (dC, dI) vwP [(h0, .inr (15, [.null, .null, .null, .null, .null, .int 0, .int 0]))] H := hP
      have hD : va_D A [(h0, .inr (15, [.null, .null, .null, .null, .null, .int 0, .int 0]))] := hD
      refine W.widen (k := 0) (n := 0) (Nat.le_of_ble_eq_true rfl) (Nat.le_of_ble_eq_true rfl) ?_
      exact W.vret hx hb hr (fun t ht hW => ⟨⟨(), rfl, trivial, by rw [ht]; exact hP, va_K.moved hW.alike hK, hD⟩, hS.F ht⟩) hS.2.2 dT3_init_60
  · refine va_gets (v := .ref tz_1) hx hb hz_2 hS hown (ow (k := 4) rfl) (fun _ h9 => h9) dT3_init_10 ?_
    refine va_put (D := (dC, dI)) (ci := 15) (v := .ref tz_1) (ty := .array (.object "java/lang/StackTraceElement")) (C := RX18) (T := TX18) (N := 7) hx hb hts mem_T3_init_0 tyX18 tyX18_ok nmX18 hown hK hP hD hS 0 rfl rfl 1 (by decide) (ow (k := 5) rfl) (fun _ h9 => h9) rfl (by decide +kernel) rfl rfl (Nat.le_of_ble_eq_true rfl) dT3_init_13 (fun H locs hP hD hS => ?_)
    have hP : va_P (dC, dI) vwP [(h0, .inr (15, [.ref h0, .ref tz_1, .null, .null, .null, .int 0, .int 0]))] H := hP
    have hD : va_D A [(h0, .inr (15, [.ref h0, .ref tz_1, .null, .null, .null, .int 0, .int 0]))] := hD
    refine lv_aload_n hx hb dT3_init_16 rfl (lv_at hl 0 rfl) ?_
    rcases hp1.1 with hz_6 | ⟨tz_5, hz_6⟩
    · refine va_gets (v := .null) hx hb hz_6 hS hown (ow (k := 6) rfl) (fun _ h9 => h9) dT3_init_17 ?_
      refine va_put (D := (dC, dI)) (ci := 15) (v := .null) (ty := .object "java/util/List") (C := RX18) (T := TX18) (N := 7) hx hb hts mem_T3_init_0 tyX18 tyX18_ok nmX18 hown hK hP hD hS 0 rfl rfl 2 (by decide) (ow (k := 7) rfl) (fun _ h9 => h9) rfl (by decide +kernel) rfl rfl (Nat.le_of_ble_eq_true rfl) dT3_init_20 (fun H locs hP hD hS => ?_)
      have hP : va_P (dC, dI) vwP [(h0, .inr (15, [.ref h0, .ref tz_1, .null, .null, .null, .int 0, .int 0]))] H := hP
      have hD : va_D A [(h0, .inr (15, [.ref h0, .ref tz_1, .null, .null, .null, .int 0, .int 0]))] := hD
      refine lv_iload hx hb dT3_init_23 (lv_at hl 4 rfl) ?_
      refine lv_if_eq (tgt := 36) hx hb dT3_init_25 (by decide) (fun _ => ?_) (fun h9 => absurd h9 (by decide))
      refine lv_aload_n hx hb dT3_init_36 rfl (lv_at hl 0 rfl) ?_
      refine lv_null hx hb dT3_init_37 ?_
      refine va_put (D := (dC, dI)) (ci := 15) (v := .null) (ty := .array (.object "java/lang/StackTraceElement")) (C := RX18) (T := TX18) (N := 7) hx hb hts mem_T3_init_0 tyX18 tyX18_ok nmX18 hown hK hP hD hS 0 rfl rfl 1 (by decide) (ow (k := 5) rfl) (fun _ h9 => h9) rfl (by decide +kernel) rfl rfl (Nat.le_of_ble_eq_true rfl) dT3_init_38 (fun H locs hP hD hS => ?_)
      have hP : va_P (dC, dI) vwP [(h0, .inr (15, [.ref h0, .null, .null, .null, .null, .int 0, .int 0]))] H := hP
      have hD : va_D A [(h0, .inr (15, [.ref h0, .null, .null, .null, .null, .int 0, .int 0]))] := hD
      refine lv_aload_n hx hb dT3_init_41 rfl (lv_at hl 0 rfl) ?_
      refine lv_aload_nN hx hb dT3_init_42 rfl (lv_at hl 1 rfl) ?_
      refine va_put (D := (dC, dI)) (ci := 15) (v := .null) (ty := .object "java/lang/String") (C := RX18) (T := TX18) (N := 7) hx hb hts mem_T3_init_0 tyX18 tyX18_ok nmX18 hown hK hP hD hS 0 rfl rfl 3 (by decide) (ow (k := 8) rfl) (fun _ h9 => h9) rfl (by decide +kernel) rfl rfl (Nat.le_of_ble_eq_true rfl) dT3_init_43 (fun H locs hP hD hS => ?_)
      have hP : va_P (dC, dI) vwP [(h0, .inr (15, [.ref h0, .null, .null, .null, .null, .int 0, .int 0]))] H := hP
      have hD : va_D A [(h0, .inr (15, [.ref h0, .null, .null, .null, .null, .int 0, .int 0]))] := hD
      refine lv_aload_n hx hb dT3_init_46 rfl (lv_at hl 0 rfl) ?_
      refine lv_aload_nN hx hb dT3_init_47 rfl (lv_at hl 2 rfl) ?_
      refine va_put (D := (dC, dI)) (ci := 15) (v := .null) (ty := .object "java/lang/Throwable") (C := RX18) (T := TX18) (N := 7) hx hb hts mem_T3_init_0 tyX18 tyX18_ok nmX18 hown hK hP hD hS 0 rfl rfl 0 (by decide) (ow (k := 3) rfl) (fun _ h9 => h9) rfl (by decide +kernel) rfl rfl (Nat.le_of_ble_eq_true rfl) dT3_init_48 (fun H locs hP hD hS => ?_)
      have hP : va_P (dC, dI) vwP [(h0, .inr (15, [.null, .null, .null, .null, .null, .int 0, .int 0]))] H := hP
      have hD : va_D A [(h0, .inr (15, [.null, .null, .null, .null, .null, .int 0, .int 0]))] := hD
      refine lv_iload_n hx hb dT3_init_51 rfl (lv_at hl 3 rfl) ?_
      refine lv_if_ne (tgt := 60) hx hb dT3_init_52 (by decide) (fun h9 => absurd h9 (by decide)) (fun _ => ?_)
      refine lv_aload_n hx hb dT3_init_55 rfl (lv_at hl 0 rfl) ?_
      refine lv_null hx hb dT3_init_56 ?_
      refine va_put (D := (dC, dI)) (ci := 15) (v := .null) (ty := .object "java/util/List") (C := RX18) (T := TX18) (N := 7) hx hb hts mem_T3_init_0 tyX18 tyX18_ok nmX18 hown hK hP hD hS 0 rfl rfl 2 (by decide) (ow (k := 7) rfl) (fun _ h9 => h9) rfl (by decide +kernel) rfl rfl (Nat.le_of_ble_eq_true rfl) dT3_init_57 (fun H locs hP hD hS => ?_)
      have hP : va_P (dC, dI) vwP [(h0, .inr (15, [.null, .null, .null, .null, .null, .int 0, .int 0]))] H := hP
      have hD : va_D A [(h0, .inr (15, [.null, .null, .null, .null, .null, .int 0, .int 0]))] := hD
      refine W.widen (k := 0) (n := 0) (Nat.le_of_ble_eq_true rfl) (Nat.le_of_ble_eq_true rfl) ?_
      exact W.vret hx hb hr (fun t ht hW => ⟨⟨(), rfl, trivial, by rw [ht]; exact hP, va_K.moved hW.alike hK, hD⟩, hS.F ht⟩) hS.2.2 dT3_init_60
    · refine va_gets (v := .ref tz_5) hx hb hz_6 hS hown (ow (k := 6) rfl) (fun _ h9 => h9) dT3_init_17 ?_
      refine va_put (D := (dC, dI)) (ci := 15) (v := .ref tz_5) (ty := .object "java/util/List") (C := RX18) (T := TX18) (N := 7) hx hb hts mem_T3_init_0 tyX18 tyX18_ok nmX18 hown hK hP hD hS 0 rfl rfl 2 (by decide) (ow (k := 7) rfl) (fun _ h9 => h9) rfl (by decide +kernel) rfl rfl (Nat.le_of_ble_eq_true rfl) dT3_init_20 (fun H locs hP hD hS => ?_)
      have hP : va_P (dC, dI) vwP [(h0, .inr (15, [.ref h0, .ref tz_1, .ref tz_5, .null, .null, .int 0, .int 0]))] H := hP
      have hD : va_D A [(h0, .inr (15, [.ref h0, .ref tz_1, .ref tz_5, .null, .null, .int 0, .int 0]))] := hD
      refine lv_iload hx hb dT3_init_23 (lv_at hl 4 rfl) ?_
      refine lv_if_eq (tgt := 36) hx hb dT3_init_25 (by decide) (fun _ => ?_) (fun h9 => absurd h9 (by decide))
      refine lv_aload_n hx hb dT3_init_36 rfl (lv_at hl 0 rfl) ?_
      refine lv_null hx hb dT3_init_37 ?_
      refine va_put (D := (dC, dI)) (ci := 15) (v := .null) (ty := .array (.object "java/lang/StackTraceElement")) (C := RX18) (T := TX18) (N := 7) hx hb hts mem_T3_init_0 tyX18 tyX18_ok nmX18 hown hK hP hD hS 0 rfl rfl 1 (by decide) (ow (k := 5) rfl) (fun _ h9 => h9) rfl (by decide +kernel) rfl rfl (Nat.le_of_ble_eq_true rfl) dT3_init_38 (fun H locs hP hD hS => ?_)
      have hP : va_P (dC, dI) vwP [(h0, .inr (15, [.ref h0, .null, .ref tz_5, .null, .null, .int 0, .int 0]))] H := hP
      have hD : va_D A [(h0, .inr (15, [.ref h0, .null, .ref tz_5, .null, .null, .int 0, .int 0]))] := hD
      refine lv_aload_n hx hb dT3_init_41 rfl (lv_at hl 0 rfl) ?_
      refine lv_aload_nN hx hb dT3_init_42 rfl (lv_at hl 1 rfl) ?_
      refine va_put (D := (dC, dI)) (ci := 15) (v := .null) (ty := .object "java/lang/String") (C := RX18) (T := TX18) (N := 7) hx hb hts mem_T3_init_0 tyX18 tyX18_ok nmX18 hown hK hP hD hS 0 rfl rfl 3 (by decide) (ow (k := 8) rfl) (fun _ h9 => h9) rfl (by decide +kernel) rfl rfl (Nat.le_of_ble_eq_true rfl) dT3_init_43 (fun H locs hP hD hS => ?_)
      have hP : va_P (dC, dI) vwP [(h0, .inr (15, [.ref h0, .null, .ref tz_5, .null, .null, .int 0, .int 0]))] H := hP
      have hD : va_D A [(h0, .inr (15, [.ref h0, .null, .ref tz_5, .null, .null, .int 0, .int 0]))] := hD
      refine lv_aload_n hx hb dT3_init_46 rfl (lv_at hl 0 rfl) ?_
      refine lv_aload_nN hx hb dT3_init_47 rfl (lv_at hl 2 rfl) ?_
      refine va_put (D := (dC, dI)) (ci := 15) (v := .null) (ty := .object "java/lang/Throwable") (C := RX18) (T := TX18) (N := 7) hx hb hts mem_T3_init_0 tyX18 tyX18_ok nmX18 hown hK hP hD hS 0 rfl rfl 0 (by decide) (ow (k := 3) rfl) (fun _ h9 => h9) rfl (by decide +kernel) rfl rfl (Nat.le_of_ble_eq_true rfl) dT3_init_48 (fun H locs hP hD hS => ?_)
      have hP : va_P (dC, dI) vwP [(h0, .inr (15, [.null, .null, .ref tz_5, .null, .null, .int 0, .int 0]))] H := hP
      have hD : va_D A [(h0, .inr (15, [.null, .null, .ref tz_5, .null, .null, .int 0, .int 0]))] := hD
      refine lv_iload_n hx hb dT3_init_51 rfl (lv_at hl 3 rfl) ?_
      refine lv_if_ne (tgt := 60) hx hb dT3_init_52 (by decide) (fun h9 => absurd h9 (by decide)) (fun _ => ?_)
      refine lv_aload_n hx hb dT3_init_55 rfl (lv_at hl 0 rfl) ?_
      refine lv_null hx hb dT3_init_56 ?_
      refine va_put (D := (dC, dI)) (ci := 15) (v := .null) (ty := .object "java/util/List") (C := RX18) (T := TX18) (N := 7) hx hb hts mem_T3_init_0 tyX18 tyX18_ok nmX18 hown hK hP hD hS 0 rfl rfl 2 (by decide) (ow (k := 7) rfl) (fun _ h9 => h9) rfl (by decide +kernel) rfl rfl (Nat.le_of_ble_eq_true rfl) dT3_init_57 (fun H locs hP hD hS => ?_)
      have hP : va_P (dC, dI) vwP [(h0, .inr (15, [.null, .null, .null, .null, .null, .int 0, .int 0]))] H := hP
      have hD : va_D A [(h0, .inr (15, [.null, .null, .null, .null, .null, .int 0, .int 0]))] := hD
      refine W.widen (k := 0) (n := 0) (Nat.le_of_ble_eq_true rfl) (Nat.le_of_ble_eq_true rfl) ?_
      exact W.vret hx hb hr (fun t ht hW => ⟨⟨(), rfl, trivial, by rw [ht]; exact hP, va_K.moved hW.alike hK, hD⟩, hS.F ht⟩) hS.2.2 dT3_init_60
theorem dT2_init_0 : decode cT2_init 0 = .ok (.aload_n 0, 1) := by decide +kernel
theorem dT2_init_1 : decode cT2_init 1 = .ok (.aload_n 1, 1) := by decide +kernel
theorem dT2_init_2 : decode cT2_init 2 = .ok (.aload_n 2, 1) := by decide +kernel
theorem dT2_init_3 : decode cT2_init 3 = .ok (.iload_n 3, 1) := by decide +kernel
theorem dT2_init_4 : decode cT2_init 4 = .ok (.iload 4, 2) := by decide +kernel
theorem dT2_init_6 : decode cT2_init 6 = .ok (.invokespecial 16, 3) := by decide +kernel
theorem dT2_init_9 : decode cT2_init 9 = .ok (.return_, 1) := by decide +kernel
def o_T2_init : List Cond := [.initialized RT3, .methodLink RT2 16 yT3_init, .instanceMethod yT3_init]
def v_T2_init : List Cond := .code yT2_init cT2_init 5 none :: (o_T2_init ++ (v_T3_init ++ []))
theorem mow_T2_init : ∀ w ∈ o_T2_init, w ∈ v_T2_init := fun _ h => List.mem_cons_of_mem _ (List.mem_append_left _ h)
theorem mem_T2_init_0 : ∀ w ∈ v_T3_init, w ∈ v_T2_init := fun _ h => List.mem_cons_of_mem _ (List.mem_append_right _ (List.mem_append_left _ h))
set_option maxRecDepth 20000 in
theorem gw_T2_init : v_T2_init.all goodWord = true := by decide +kernel
set_option maxHeartbeats 4000000 in
set_option maxRecDepth 100000 in
theorem c_T2_init (l : Launch) (dC : Nat → ClassId) (dI : Nat → Nat → Nat) (h0 : Nat) (sz : Nat) : Met l yT2_init v_T2_init ({ frames := 2, cells := 0, slots := 0, locals := 36 }) (va_Pc [.ref h0, .null, .null, .int 0, .int 0] (fun U => U.heap.size = sz ∧ va_P (dC, dI) vwP [(h0, .inr (15, [.null, .null, .null, .null, .null, .int 0, .int 0]))] U.heap ∧ va_K (dC, dI) vwP [] U ∧ va_D (fun _ => True) [(h0, .inr (15, [.null, .null, .null, .null, .null, .int 0, .int 0]))] ∧ vx_Zq Bundle.tN "UNASSIGNED_STACK" Bundle.steD (va_A [(h0, .inr (15, [.null, .null, .null, .null, .null, .int 0, .int 0]))] sz) U U.heap ∧ vx_Zq Bundle.tN "SUPPRESSED_SENTINEL" Bundle.listD (va_A [(h0, .inr (15, [.null, .null, .null, .null, .null, .int 0, .int 0]))] sz) U U.heap)) (va_Qv (fun _ : Unit => True) (fun (_ : Unit) (t : State) => va_P (dC, dI) vwP [(h0, .inr (15, [.null, .null, .null, .null, .null, .int 0, .int 0]))] t.heap ∧ va_K (dC, dI) vwP [] t ∧ va_D (va_A [(h0, .inr (15, [.null, .null, .null, .null, .null, .int 0, .int 0]))] sz) [(h0, .inr (15, [.null, .null, .null, .null, .null, .int 0, .int 0]))]) (va_A [(h0, .inr (15, [.null, .null, .null, .null, .null, .int 0, .int 0]))] sz)) 0 0 (va_A [(h0, .inr (15, [.null, .null, .null, .null, .null, .int 0, .int 0]))] sz) := by
  refine Met.ofW (cc := cT2_init) (maxL := 5) (ret := none) (by decide) rfl ?_
  intro p e s m args below meth c s₁ B hml hv
  obtain ⟨rfl, hsz, hP, hK, hD0, hp0, hp1⟩ := hv
  have hx := B.exec
  have hb := B.bytes
  have hr := B.returns
  have hts := atoms_spec (ws := v_T2_init) B.pre
  have hown : s.vm.findClass RT2 = some m.cls := findClass_of_methodNamed B.named
  have hlocks := B.notSynchronized
  have ow : ∀ {k : Nat} {w : Cond}, o_T2_init[k]? = some w → w.before ([.ref h0, .null, .null, .int 0, .int 0] : List Value).toArray s = true := fun h => hts _ (mow_T2_init _ (List.mem_of_getElem? h))
  have hin : meth.name = "<init>" := (name_of_methodNamed B.named B.method).1
  subst hsz
  have hD := hD0.self (sz := s.heap.size)
  generalize hAe : va_A [(h0, .inr (15, [.null, .null, .null, .null, .null, .int 0, .int 0]))] s.heap.size = A at hD hp0 hp1 ⊢
  have hA : ∀ q : Nat, s.heap.size ≤ q → A q := fun q h => by rw [← hAe]; exact Or.inr h
  have hS : va_S A s.heap s.heap [] := va_S.rf
  have hP : va_P (dC, dI) vwP [(h0, .inr (15, [.null, .null, .null, .null, .null, .int 0, .int 0]))] s.heap := hP
  have hl := lv_entry ([.ref h0, .null, .null, .int 0, .int 0]) (n := 5) (Nat.le_of_ble_eq_true rfl)
  rw [lg_entry_eq]
  generalize (lg_sl ([.ref h0, .null, .null, .int 0, .int 0]) ++ List.replicate (5 - (lg_sl ([.ref h0, .null, .null, .int 0, .int 0])).length) Slot.unset).toArray = ls at hl ⊢
  have hl : lv_has ls 5 [(0, .ref h0), (1, .null), (2, .null), (3, .int 0), (4, .int 0)] := hl
  obtain ⟨H, hH⟩ : ∃ H, H = s.heap := ⟨_, rfl⟩
  rw [← hH] at hP
  have hS : va_S A s.heap H [] := by rw [hH]; exact hS
  rw [← hH]
  refine lv_aload_n hx hb dT2_init_0 rfl (lv_at hl 0 rfl) ?_
  refine lv_aload_nN hx hb dT2_init_1 rfl (lv_at hl 1 rfl) ?_
  refine lv_aload_nN hx hb dT2_init_2 rfl (lv_at hl 2 rfl) ?_
  refine lv_iload_n hx hb dT2_init_3 rfl (lv_at hl 3 rfl) ?_
  refine lv_iload hx hb dT2_init_4 (lv_at hl 4 rfl) ?_
  have hPc := hP.sub (ws' := [(h0, .inr (15, [.null, .null, .null, .null, .null, .int 0, .int 0]))]) [0] rfl
  have hDc := hD.sub (ws' := [(h0, .inr (15, [.null, .null, .null, .null, .null, .int 0, .int 0]))]) [0] (by decide) rfl
  have hKc := hK.sub (tys' := []) [] rfl
  have hFc := va_free (wc := [(h0, .inr (15, [.null, .null, .null, .null, .null, .int 0, .int 0]))]) hD hS hA [0] rfl
  refine va_callv (va_runI (As := [.null, .null, .int 0, .int 0]) (rest := []) ⟨hx, hb, hml, hown, hts⟩ (c_T3_init l dC dI h0 H.size) (cwI 4 hts (goodIn_sub mem_T2_init_0 gw_T3_init) rfl rfl rfl (ow (k := 0) rfl) (ow (k := 1) rfl) (ow (k := 2) rfl) rfl (by decide +kernel) ⟨(Nat.le_of_ble_eq_true rfl), (Nat.le_of_ble_eq_true rfl)⟩) ⟨fun a U g mk q => by obtain ⟨q0, q1, qP, qK, qD, e0, e1⟩ := q; exact ⟨q0, q1, qP, va_K.moved (u := U) (U := U.calling g mk a) (Vm.Alike.refl U.vm) qK, qD, vx_Zq.moved (u := U) (U := U.calling g mk a) (Vm.Alike.refl U.vm) e0, vx_Zq.moved (u := U) (U := U.calling g mk a) (Vm.Alike.refl U.vm) e1⟩, fun U hU hW => ⟨rfl, by rw [hU], by rw [hU]; exact hPc, va_K.moved hW.alike hKc, hDc.weaken (fun _ _ _ _ => trivial), by rw [hU]; exact vx_Zq.narrow (vx_Zq.moved hW.alike (vx_Zq.kept hp0 hS.2.1)) hFc, by rw [hU]; exact vx_Zq.narrow (vx_Zq.moved hW.alike (vx_Zq.kept hp1 hS.2.1)) hFc⟩⟩ rfl rfl hl.1 rfl (lv_room (Nat.le_of_ble_eq_true rfl)) dT2_init_6 ⟨(Nat.le_of_ble_eq_true rfl), (Nat.le_of_ble_eq_true rfl)⟩) hS (fun q _ h => hFc q h) hFc (fun  u t H1 locs ht hvm hw hB hz1 hk1 hS => ?_)
  obtain ⟨hP1, hK1, hD1⟩ := hB
  rw [ht] at hP1
  have hK1 := va_K.moved hvm.symm hK1
  obtain ⟨hP, hD⟩ := va_join (wr := []) (w1 := [(h0, .inr (15, [.null, .null, .null, .null, .null, .int 0, .int 0]))]) hP hD [0] [] rfl rfl (by decide) (by decide) hk1 hFc hP1 hD1
  have hK := (hK.sub (tys' := []) [] rfl).app hK1
  generalize H1 = H at hP hS ⊢
  have hP : va_P (dC, dI) vwP [(h0, .inr (15, [.null, .null, .null, .null, .null, .int 0, .int 0]))] H := hP
  have hD : va_D A [(h0, .inr (15, [.null, .null, .null, .null, .null, .int 0, .int 0]))] := hD
  have hK : va_K (dC, dI) vwP [] s := hK
  refine W.widen (k := 0) (n := 0) (Nat.le_of_ble_eq_true rfl) (Nat.le_of_ble_eq_true rfl) ?_
  refine W.widen (k := 0) (n := 0) (Nat.le_of_ble_eq_true rfl) (Nat.le_of_ble_eq_true rfl) ?_
  exact W.vret hx hb hr (fun t ht hW => ⟨⟨(), rfl, trivial, by rw [ht]; exact hP, va_K.moved hW.alike hK, hD⟩, hS.F ht⟩) hS.2.2 dT2_init_9
theorem dT1_init_0 : decode cT1_init 0 = .ok (.aload_n 0, 1) := by decide +kernel
theorem dT1_init_1 : decode cT1_init 1 = .ok (.aload_n 1, 1) := by decide +kernel
theorem dT1_init_2 : decode cT1_init 2 = .ok (.aload_n 2, 1) := by decide +kernel
theorem dT1_init_3 : decode cT1_init 3 = .ok (.iload_n 3, 1) := by decide +kernel
theorem dT1_init_4 : decode cT1_init 4 = .ok (.iload 4, 2) := by decide +kernel
theorem dT1_init_6 : decode cT1_init 6 = .ok (.invokespecial 16, 3) := by decide +kernel
theorem dT1_init_9 : decode cT1_init 9 = .ok (.return_, 1) := by decide +kernel
def o_T1_init : List Cond := [.initialized RT2, .methodLink RT1 16 yT2_init, .instanceMethod yT2_init]
def v_T1_init : List Cond := .code yT1_init cT1_init 5 none :: (o_T1_init ++ (v_T2_init ++ []))
theorem mow_T1_init : ∀ w ∈ o_T1_init, w ∈ v_T1_init := fun _ h => List.mem_cons_of_mem _ (List.mem_append_left _ h)
theorem mem_T1_init_0 : ∀ w ∈ v_T2_init, w ∈ v_T1_init := fun _ h => List.mem_cons_of_mem _ (List.mem_append_right _ (List.mem_append_left _ h))
set_option maxRecDepth 20000 in
theorem gw_T1_init : v_T1_init.all goodWord = true := by decide +kernel
set_option maxHeartbeats 4000000 in
set_option maxRecDepth 100000 in
theorem c_T1_init (l : Launch) (dC : Nat → ClassId) (dI : Nat → Nat → Nat) (h0 : Nat) (sz : Nat) : Met l yT1_init v_T1_init ({ frames := 3, cells := 0, slots := 0, locals := 60 }) (va_Pc [.ref h0, .null, .null, .int 0, .int 0] (fun U => U.heap.size = sz ∧ va_P (dC, dI) vwP [(h0, .inr (15, [.null, .null, .null, .null, .null, .int 0, .int 0]))] U.heap ∧ va_K (dC, dI) vwP [] U ∧ va_D (fun _ => True) [(h0, .inr (15, [.null, .null, .null, .null, .null, .int 0, .int 0]))] ∧ vx_Zq Bundle.tN "UNASSIGNED_STACK" Bundle.steD (va_A [(h0, .inr (15, [.null, .null, .null, .null, .null, .int 0, .int 0]))] sz) U U.heap ∧ vx_Zq Bundle.tN "SUPPRESSED_SENTINEL" Bundle.listD (va_A [(h0, .inr (15, [.null, .null, .null, .null, .null, .int 0, .int 0]))] sz) U U.heap)) (va_Qv (fun _ : Unit => True) (fun (_ : Unit) (t : State) => va_P (dC, dI) vwP [(h0, .inr (15, [.null, .null, .null, .null, .null, .int 0, .int 0]))] t.heap ∧ va_K (dC, dI) vwP [] t ∧ va_D (va_A [(h0, .inr (15, [.null, .null, .null, .null, .null, .int 0, .int 0]))] sz) [(h0, .inr (15, [.null, .null, .null, .null, .null, .int 0, .int 0]))]) (va_A [(h0, .inr (15, [.null, .null, .null, .null, .null, .int 0, .int 0]))] sz)) 0 0 (va_A [(h0, .inr (15, [.null, .null, .null, .null, .null, .int 0, .int 0]))] sz) := by
  refine Met.ofW (cc := cT1_init) (maxL := 5) (ret := none) (by decide) rfl ?_
  intro p e s m args below meth c s₁ B hml hv
  obtain ⟨rfl, hsz, hP, hK, hD0, hp0, hp1⟩ := hv
  have hx := B.exec
  have hb := B.bytes
  have hr := B.returns
  have hts := atoms_spec (ws := v_T1_init) B.pre
  have hown : s.vm.findClass RT1 = some m.cls := findClass_of_methodNamed B.named
  have hlocks := B.notSynchronized
  have ow : ∀ {k : Nat} {w : Cond}, o_T1_init[k]? = some w → w.before ([.ref h0, .null, .null, .int 0, .int 0] : List Value).toArray s = true := fun h => hts _ (mow_T1_init _ (List.mem_of_getElem? h))
  have hin : meth.name = "<init>" := (name_of_methodNamed B.named B.method).1
  subst hsz
  have hD := hD0.self (sz := s.heap.size)
  generalize hAe : va_A [(h0, .inr (15, [.null, .null, .null, .null, .null, .int 0, .int 0]))] s.heap.size = A at hD hp0 hp1 ⊢
  have hA : ∀ q : Nat, s.heap.size ≤ q → A q := fun q h => by rw [← hAe]; exact Or.inr h
  have hS : va_S A s.heap s.heap [] := va_S.rf
  have hP : va_P (dC, dI) vwP [(h0, .inr (15, [.null, .null, .null, .null, .null, .int 0, .int 0]))] s.heap := hP
  have hl := lv_entry ([.ref h0, .null, .null, .int 0, .int 0]) (n := 5) (Nat.le_of_ble_eq_true rfl)
  rw [lg_entry_eq]
  generalize (lg_sl ([.ref h0, .null, .null, .int 0, .int 0]) ++ List.replicate (5 - (lg_sl ([.ref h0, .null, .null, .int 0, .int 0])).length) Slot.unset).toArray = ls at hl ⊢
  have hl : lv_has ls 5 [(0, .ref h0), (1, .null), (2, .null), (3, .int 0), (4, .int 0)] := hl
  obtain ⟨H, hH⟩ : ∃ H, H = s.heap := ⟨_, rfl⟩
  rw [← hH] at hP
  have hS : va_S A s.heap H [] := by rw [hH]; exact hS
  rw [← hH]
  refine lv_aload_n hx hb dT1_init_0 rfl (lv_at hl 0 rfl) ?_
  refine lv_aload_nN hx hb dT1_init_1 rfl (lv_at hl 1 rfl) ?_
  refine lv_aload_nN hx hb dT1_init_2 rfl (lv_at hl 2 rfl) ?_
  refine lv_iload_n hx hb dT1_init_3 rfl (lv_at hl 3 rfl) ?_
  refine lv_iload hx hb dT1_init_4 (lv_at hl 4 rfl) ?_
  have hPc := hP.sub (ws' := [(h0, .inr (15, [.null, .null, .null, .null, .null, .int 0, .int 0]))]) [0] rfl
  have hDc := hD.sub (ws' := [(h0, .inr (15, [.null, .null, .null, .null, .null, .int 0, .int 0]))]) [0] (by decide) rfl
  have hKc := hK.sub (tys' := []) [] rfl
  have hFc := va_free (wc := [(h0, .inr (15, [.null, .null, .null, .null, .null, .int 0, .int 0]))]) hD hS hA [0] rfl
  refine va_callv (va_runI (As := [.null, .null, .int 0, .int 0]) (rest := []) ⟨hx, hb, hml, hown, hts⟩ (c_T2_init l dC dI h0 H.size) (cwI 4 hts (goodIn_sub mem_T1_init_0 gw_T2_init) rfl rfl rfl (ow (k := 0) rfl) (ow (k := 1) rfl) (ow (k := 2) rfl) rfl (by decide +kernel) ⟨(Nat.le_of_ble_eq_true rfl), (Nat.le_of_ble_eq_true rfl)⟩) ⟨fun a U g mk q => by obtain ⟨q0, q1, qP, qK, qD, e0, e1⟩ := q; exact ⟨q0, q1, qP, va_K.moved (u := U) (U := U.calling g mk a) (Vm.Alike.refl U.vm) qK, qD, vx_Zq.moved (u := U) (U := U.calling g mk a) (Vm.Alike.refl U.vm) e0, vx_Zq.moved (u := U) (U := U.calling g mk a) (Vm.Alike.refl U.vm) e1⟩, fun U hU hW => ⟨rfl, by rw [hU], by rw [hU]; exact hPc, va_K.moved hW.alike hKc, hDc.weaken (fun _ _ _ _ => trivial), by rw [hU]; exact vx_Zq.narrow (vx_Zq.moved hW.alike (vx_Zq.kept hp0 hS.2.1)) hFc, by rw [hU]; exact vx_Zq.narrow (vx_Zq.moved hW.alike (vx_Zq.kept hp1 hS.2.1)) hFc⟩⟩ rfl rfl hl.1 rfl (lv_room (Nat.le_of_ble_eq_true rfl)) dT1_init_6 ⟨(Nat.le_of_ble_eq_true rfl), (Nat.le_of_ble_eq_true rfl)⟩) hS (fun q _ h => hFc q h) hFc (fun  u t H1 locs ht hvm hw hB hz1 hk1 hS => ?_)
  obtain ⟨hP1, hK1, hD1⟩ := hB
  rw [ht] at hP1
  have hK1 := va_K.moved hvm.symm hK1
  obtain ⟨hP, hD⟩ := va_join (wr := []) (w1 := [(h0, .inr (15, [.null, .null, .null, .null, .null, .int 0, .int 0]))]) hP hD [0] [] rfl rfl (by decide) (by decide) hk1 hFc hP1 hD1
  have hK := (hK.sub (tys' := []) [] rfl).app hK1
  generalize H1 = H at hP hS ⊢
  have hP : va_P (dC, dI) vwP [(h0, .inr (15, [.null, .null, .null, .null, .null, .int 0, .int 0]))] H := hP
  have hD : va_D A [(h0, .inr (15, [.null, .null, .null, .null, .null, .int 0, .int 0]))] := hD
  have hK : va_K (dC, dI) vwP [] s := hK
  refine W.widen (k := 0) (n := 0) (Nat.le_of_ble_eq_true rfl) (Nat.le_of_ble_eq_true rfl) ?_
  refine W.widen (k := 0) (n := 0) (Nat.le_of_ble_eq_true rfl) (Nat.le_of_ble_eq_true rfl) ?_
  exact W.vret hx hb hr (fun t ht hW => ⟨⟨(), rfl, trivial, by rw [ht]; exact hP, va_K.moved hW.alike hK, hD⟩, hS.F ht⟩) hS.2.2 dT1_init_9
theorem dX18_init_0 : decode cX18_init 0 = .ok (.aload_n 0, 1) := by decide +kernel
theorem dX18_init_1 : decode cX18_init 1 = .ok (.aconst_null, 1) := by decide +kernel
theorem dX18_init_2 : decode cX18_init 2 = .ok (.aconst_null, 1) := by decide +kernel
theorem dX18_init_3 : decode cX18_init 3 = .ok (.iconst 0, 1) := by decide +kernel
theorem dX18_init_4 : decode cX18_init 4 = .ok (.iconst 0, 1) := by decide +kernel
theorem dX18_init_5 : decode cX18_init 5 = .ok (.invokespecial 1, 3) := by decide +kernel
theorem dX18_init_8 : decode cX18_init 8 = .ok (.aload_n 0, 1) := by decide +kernel
theorem dX18_init_9 : decode cX18_init 9 = .ok (.iload_n 1, 1) := by decide +kernel
theorem dX18_init_10 : decode cX18_init 10 = .ok (.putfield 7, 3) := by decide +kernel
theorem dX18_init_13 : decode cX18_init 13 = .ok (.return_, 1) := by decide +kernel
def o_X18_init : List Cond := [.initialized RT1, .methodLink RX18 1 yT1_init, .instanceMethod yT1_init, .fieldLink RX18 7 "SsaForgeModel$Wrong" "place" "I"]
def v_X18_init : List Cond := .code yX18_init cX18_init 2 none :: (o_X18_init ++ (v_T1_init ++ (wsX180 ++ [])))
theorem mow_X18_init : ∀ w ∈ o_X18_init, w ∈ v_X18_init := fun _ h => List.mem_cons_of_mem _ (List.mem_append_left _ h)
theorem mem_X18_init_0 : ∀ w ∈ v_T1_init, w ∈ v_X18_init := fun _ h => List.mem_cons_of_mem _ (List.mem_append_right _ (List.mem_append_left _ h))
theorem mem_X18_init_1 : ∀ w ∈ wsX180, w ∈ v_X18_init := fun _ h => List.mem_cons_of_mem _ (List.mem_append_right _ (List.mem_append_right _ (List.mem_append_left _ h)))
set_option maxRecDepth 20000 in
theorem gw_X18_init : v_X18_init.all goodWord = true := by decide +kernel
set_option maxHeartbeats 4000000 in
set_option maxRecDepth 100000 in
theorem c_X18_init (l : Launch) (dC : Nat → ClassId) (dI : Nat → Nat → Nat) (h0 : Nat) (sz : Nat) : Met l yX18_init v_X18_init ({ frames := 4, cells := 0, slots := 0, locals := 84 }) (va_Pc [.ref h0, .int 0] (fun U => U.heap.size = sz ∧ va_P (dC, dI) vwP [(h0, .inr (15, [.null, .null, .null, .null, .null, .int 0, .int 0]))] U.heap ∧ va_K (dC, dI) vwP [] U ∧ va_D (fun _ => True) [(h0, .inr (15, [.null, .null, .null, .null, .null, .int 0, .int 0]))] ∧ vx_Zq Bundle.tN "UNASSIGNED_STACK" Bundle.steD (va_A [(h0, .inr (15, [.null, .null, .null, .null, .null, .int 0, .int 0]))] sz) U U.heap ∧ vx_Zq Bundle.tN "SUPPRESSED_SENTINEL" Bundle.listD (va_A [(h0, .inr (15, [.null, .null, .null, .null, .null, .int 0, .int 0]))] sz) U U.heap)) (va_Qv (fun _ : Unit => True) (fun (_ : Unit) (t : State) => va_P (dC, dI) vwP [(h0, .inr (15, [.null, .null, .null, .null, .null, .int 0, .int 0]))] t.heap ∧ va_K (dC, dI) vwP [] t ∧ va_D (va_A [(h0, .inr (15, [.null, .null, .null, .null, .null, .int 0, .int 0]))] sz) [(h0, .inr (15, [.null, .null, .null, .null, .null, .int 0, .int 0]))]) (va_A [(h0, .inr (15, [.null, .null, .null, .null, .null, .int 0, .int 0]))] sz)) 0 0 (va_A [(h0, .inr (15, [.null, .null, .null, .null, .null, .int 0, .int 0]))] sz) := by
  refine Met.ofW (cc := cX18_init) (maxL := 2) (ret := none) (by decide) rfl ?_
  intro p e s m args below meth c s₁ B hml hv
  obtain ⟨rfl, hsz, hP, hK, hD0, hp0, hp1⟩ := hv
  have hx := B.exec
  have hb := B.bytes
  have hr := B.returns
  have hts := atoms_spec (ws := v_X18_init) B.pre
  have hown : s.vm.findClass RX18 = some m.cls := findClass_of_methodNamed B.named
  have hlocks := B.notSynchronized
  have ow : ∀ {k : Nat} {w : Cond}, o_X18_init[k]? = some w → w.before ([.ref h0, .int 0] : List Value).toArray s = true := fun h => hts _ (mow_X18_init _ (List.mem_of_getElem? h))
  have hin : meth.name = "<init>" := (name_of_methodNamed B.named B.method).1
  subst hsz
  have hD := hD0.self (sz := s.heap.size)
  generalize hAe : va_A [(h0, .inr (15, [.null, .null, .null, .null, .null, .int 0, .int 0]))] s.heap.size = A at hD hp0 hp1 ⊢
  have hA : ∀ q : Nat, s.heap.size ≤ q → A q := fun q h => by rw [← hAe]; exact Or.inr h
  have hS : va_S A s.heap s.heap [] := va_S.rf
  have hP : va_P (dC, dI) vwP [(h0, .inr (15, [.null, .null, .null, .null, .null, .int 0, .int 0]))] s.heap := hP
  have hl := lv_entry ([.ref h0, .int 0]) (n := 2) (Nat.le_of_ble_eq_true rfl)
  rw [lg_entry_eq]
  generalize (lg_sl ([.ref h0, .int 0]) ++ List.replicate (2 - (lg_sl ([.ref h0, .int 0])).length) Slot.unset).toArray = ls at hl ⊢
  have hl : lv_has ls 2 [(0, .ref h0), (1, .int 0)] := hl
  obtain ⟨H, hH⟩ : ∃ H, H = s.heap := ⟨_, rfl⟩
  rw [← hH] at hP
  have hS : va_S A s.heap H [] := by rw [hH]; exact hS
  rw [← hH]
  refine lv_aload_n hx hb dX18_init_0 rfl (lv_at hl 0 rfl) ?_
  refine lv_null hx hb dX18_init_1 ?_
  refine lv_null hx hb dX18_init_2 ?_
  refine lv_iconst (v := 0) hx hb dX18_init_3 (by decide) ?_
  refine lv_iconst (v := 0) hx hb dX18_init_4 (by decide) ?_
  have hPc := hP.sub (ws' := [(h0, .inr (15, [.null, .null, .null, .null, .null, .int 0, .int 0]))]) [0] rfl
  have hDc := hD.sub (ws' := [(h0, .inr (15, [.null, .null, .null, .null, .null, .int 0, .int 0]))]) [0] (by decide) rfl
  have hKc := hK.sub (tys' := []) [] rfl
  have hFc := va_free (wc := [(h0, .inr (15, [.null, .null, .null, .null, .null, .int 0, .int 0]))]) hD hS hA [0] rfl
  refine va_callv (va_runI (As := [.null, .null, .int 0, .int 0]) (rest := []) ⟨hx, hb, hml, hown, hts⟩ (c_T1_init l dC dI h0 H.size) (cwI 4 hts (goodIn_sub mem_X18_init_0 gw_T1_init) rfl rfl rfl (ow (k := 0) rfl) (ow (k := 1) rfl) (ow (k := 2) rfl) rfl (by decide +kernel) ⟨(Nat.le_of_ble_eq_true rfl), (Nat.le_of_ble_eq_true rfl)⟩) ⟨fun a U g mk q => by obtain ⟨q0, q1, qP, qK, qD, e0, e1⟩ := q; exact ⟨q0, q1, qP, va_K.moved (u := U) (U := U.calling g mk a) (Vm.Alike.refl U.vm) qK, qD, vx_Zq.moved (u := U) (U := U.calling g mk a) (Vm.Alike.refl U.vm) e0, vx_Zq.moved (u := U) (U := U.calling g mk a) (Vm.Alike.refl U.vm) e1⟩, fun U hU hW => ⟨rfl, by rw [hU], by rw [hU]; exact hPc, va_K.moved hW.alike hKc, hDc.weaken (fun _ _ _ _ => trivial), by rw [hU]; exact vx_Zq.narrow (vx_Zq.moved hW.alike (vx_Zq.kept hp0 hS.2.1)) hFc, by rw [hU]; exact vx_Zq.narrow (vx_Zq.moved hW.alike (vx_Zq.kept hp1 hS.2.1)) hFc⟩⟩ rfl rfl hl.1 rfl (lv_room (Nat.le_of_ble_eq_true rfl)) dX18_init_5 ⟨(Nat.le_of_ble_eq_true rfl), (Nat.le_of_ble_eq_true rfl)⟩) hS (fun q _ h => hFc q h) hFc (fun  u t H1 locs ht hvm hw hB hz1 hk1 hS => ?_)
  obtain ⟨hP1, hK1, hD1⟩ := hB
  rw [ht] at hP1
  have hK1 := va_K.moved hvm.symm hK1
  obtain ⟨hP, hD⟩ := va_join (wr := []) (w1 := [(h0, .inr (15, [.null, .null, .null, .null, .null, .int 0, .int 0]))]) hP hD [0] [] rfl rfl (by decide) (by decide) hk1 hFc hP1 hD1
  have hK := (hK.sub (tys' := []) [] rfl).app hK1
  generalize H1 = H at hP hS ⊢
  have hP : va_P (dC, dI) vwP [(h0, .inr (15, [.null, .null, .null, .null, .null, .int 0, .int 0]))] H := hP
  have hD : va_D A [(h0, .inr (15, [.null, .null, .null, .null, .null, .int 0, .int 0]))] := hD
  have hK : va_K (dC, dI) vwP [] s := hK
  refine W.widen (k := 0) (n := 0) (Nat.le_of_ble_eq_true rfl) (Nat.le_of_ble_eq_true rfl) ?_
  refine lv_aload_n hx hb dX18_init_8 rfl (lv_at hl 0 rfl) ?_
  refine lv_iload_n hx hb dX18_init_9 rfl (lv_at hl 1 rfl) ?_
  refine va_putF (D := (dC, dI)) (ci := 15) (v := .int 0) (ty := .int) (C := RX18) (T := TX18) (N := 7) hx hb hts mem_X18_init_1 tyX18 tyX18_ok nmX18 hown hK hP hD hS 0 rfl rfl 6 (by decide) (ow (k := 3) rfl) (fun _ h9 => h9) rfl hin rfl (by decide +kernel) rfl rfl (Nat.le_of_ble_eq_true rfl) dX18_init_10 (fun H locs hP hD hS => ?_)
  have hP : va_P (dC, dI) vwP [(h0, .inr (15, [.null, .null, .null, .null, .null, .int 0, .int 0]))] H := hP
  have hD : va_D A [(h0, .inr (15, [.null, .null, .null, .null, .null, .int 0, .int 0]))] := hD
  refine W.widen (k := 0) (n := 0) (Nat.le_of_ble_eq_true rfl) (Nat.le_of_ble_eq_true rfl) ?_
  exact W.vret hx hb hr (fun t ht hW => ⟨⟨(), rfl, trivial, by rw [ht]; exact hP, va_K.moved hW.alike hK, hD⟩, hS.F ht⟩) hS.2.2 dX18_init_13
end
section
theorem dX13_init_0 : decode cX13_init 0 = .ok (.aload_n 0, 1) := by decide +kernel
theorem dX13_init_1 : decode cX13_init 1 = .ok (.invokespecial 1, 3) := by decide +kernel
theorem dX13_init_4 : decode cX13_init 4 = .ok (.aload_n 0, 1) := by decide +kernel
theorem dX13_init_5 : decode cX13_init 5 = .ok (.new 7, 3) := by decide +kernel
theorem dX13_init_8 : decode cX13_init 8 = .ok (.dup, 1) := by decide +kernel
theorem dX13_init_9 : decode cX13_init 9 = .ok (.invokespecial 9, 3) := by decide +kernel
theorem dX13_init_12 : decode cX13_init 12 = .ok (.putfield 10, 3) := by decide +kernel
theorem dX13_init_15 : decode cX13_init 15 = .ok (.aload_n 0, 1) := by decide +kernel
theorem dX13_init_16 : decode cX13_init 16 = .ok (.new 7, 3) := by decide +kernel
theorem dX13_init_19 : decode cX13_init 19 = .ok (.dup, 1) := by decide +kernel
theorem dX13_init_20 : decode cX13_init 20 = .ok (.invokespecial 9, 3) := by decide +kernel
theorem dX13_init_23 : decode cX13_init 23 = .ok (.putfield 16, 3) := by decide +kernel
theorem dX13_init_26 : decode cX13_init 26 = .ok (.aload_n 0, 1) := by decide +kernel
theorem dX13_init_27 : decode cX13_init 27 = .ok (.new 7, 3) := by decide +kernel
theorem dX13_init_30 : decode cX13_init 30 = .ok (.dup, 1) := by decide +kernel
theorem dX13_init_31 : decode cX13_init 31 = .ok (.invokespecial 9, 3) := by decide +kernel
theorem dX13_init_34 : decode cX13_init 34 = .ok (.putfield 19, 3) := by decide +kernel
theorem dX13_init_37 : decode cX13_init 37 = .ok (.aload_n 0, 1) := by decide +kernel
theorem dX13_init_38 : decode cX13_init 38 = .ok (.new 7, 3) := by decide +kernel
theorem dX13_init_41 : decode cX13_init 41 = .ok (.dup, 1) := by decide +kernel
theorem dX13_init_42 : decode cX13_init 42 = .ok (.invokespecial 9, 3) := by decide +kernel
theorem dX13_init_45 : decode cX13_init 45 = .ok (.putfield 22, 3) := by decide +kernel
theorem dX13_init_48 : decode cX13_init 48 = .ok (.return_, 1) := by decide +kernel
def o_X13_init : List Cond := [.methodLink RX13 1 objectInit, .instanceMethod objectInit, .code objectInit ⟨#[0xb1]⟩ 1 none, .classLink RX13 7 RJx4a65c, .instantiable RJx4a65c 3, .initialized RJx4a65c, .methodLink RX13 9 yJx4a65c_init_da8c8, .instanceMethod yJx4a65c_init_da8c8, .fieldLink RX13 10 "SsaForgeModel$Code" "blocks" "Ljava/util/ArrayList;", .fieldLink RX13 16 "SsaForgeModel$Code" "rows" "Ljava/util/ArrayList;", .fieldLink RX13 19 "SsaForgeModel$Code" "phis" "Ljava/util/ArrayList;", .fieldLink RX13 22 "SsaForgeModel$Code" "all" "Ljava/util/ArrayList;"]
def v_X13_init : List Cond := .code yX13_init cX13_init 1 none :: (o_X13_init ++ (wsJx4a65c0 ++ (v_Jx4a65c_init ++ (wsX130 ++ []))))
theorem mow_X13_init : ∀ w ∈ o_X13_init, w ∈ v_X13_init := fun _ h => List.mem_cons_of_mem _ (List.mem_append_left _ h)
theorem mem_X13_init_0 : ∀ w ∈ wsJx4a65c0, w ∈ v_X13_init := fun _ h => List.mem_cons_of_mem _ (List.mem_append_right _ (List.mem_append_left _ h))
theorem mem_X13_init_1 : ∀ w ∈ v_Jx4a65c_init, w ∈ v_X13_init := fun _ h => List.mem_cons_of_mem _ (List.mem_append_right _ (List.mem_append_right _ (List.mem_append_left _ h)))
theorem mem_X13_init_2 : ∀ w ∈ wsX130, w ∈ v_X13_init := fun _ h => List.mem_cons_of_mem _ (List.mem_append_right _ (List.mem_append_right _ (List.mem_append_right _ (List.mem_append_left _ h))))
set_option maxRecDepth 20000 in
theorem gw_X13_init : v_X13_init.all goodWord = true := by decide +kernel
set_option maxHeartbeats 4000000 in
set_option maxRecDepth 100000 in
theorem c_X13_init (l : Launch) (dC : Nat → ClassId) (dI : Nat → Nat → Nat) (h0 : Nat) (sz : Nat) (sx_ed : Nat) : Met l yX13_init v_X13_init ({ frames := 4, cells := 4, slots := 12, locals := 72 }) (va_Pc [.ref h0] (fun U => U.heap.size = sz ∧ va_P (dC, dI) vwP [(h0, .inr (12, [.null, .null, .null, .int 0, .int 0, .null, .int 0]))] U.heap ∧ va_K (dC, dI) vwP [] U ∧ va_D (fun _ => True) [(h0, .inr (12, [.null, .null, .null, .int 0, .int 0, .null, .int 0]))] ∧ va_Z "java/util/ArrayList" "DEFAULTCAPACITY_EMPTY_ELEMENTDATA" "[Ljava/lang/Object;" (.ref sx_ed) (va_A [(h0, .inr (12, [.null, .null, .null, .int 0, .int 0, .null, .int 0]))] sz) U U.heap)) (va_Qv (fun _ : Unit => True) (fun (_ : Unit) (t : State) => ∃ (q_1 : Nat) (q_2 : Nat) (q_3 : Nat) (q_4 : Nat), va_P (dC, dI) vwP [(h0, .inr (12, [.ref q_1, .ref q_2, .ref q_3, .int 0, .int 0, .ref q_4, .int 0])), (q_4, .inr (18, [.int 0, .ref sx_ed, .int 0]))] t.heap ∧ va_K (dC, dI) vwP [] t ∧ va_D (va_A [(h0, .inr (12, [.null, .null, .null, .int 0, .int 0, .null, .int 0]))] sz) [(h0, .inr (12, [.ref q_1, .ref q_2, .ref q_3, .int 0, .int 0, .ref q_4, .int 0])), (q_4, .inr (18, [.int 0, .ref sx_ed, .int 0]))]) (va_A [(h0, .inr (12, [.null, .null, .null, .int 0, .int 0, .null, .int 0]))] sz)) 4 12 (va_A [(h0, .inr (12, [.null, .null, .null, .int 0, .int 0, .null, .int 0]))] sz) := by
  refine Met.ofW (cc := cX13_init) (maxL := 1) (ret := none) (by decide) rfl ?_
  intro p e s m args below meth c s₁ B hml hv
  obtain ⟨rfl, hsz, hP, hK, hD0, hp0⟩ := hv
  have hx := B.exec
  have hb := B.bytes
  have hr := B.returns
  have hts := atoms_spec (ws := v_X13_init) B.pre
  have hown : s.vm.findClass RX13 = some m.cls := findClass_of_methodNamed B.named
  have hlocks := B.notSynchronized
  have ow : ∀ {k : Nat} {w : Cond}, o_X13_init[k]? = some w → w.before ([.ref h0] : List Value).toArray s = true := fun h => hts _ (mow_X13_init _ (List.mem_of_getElem? h))
  have hin : meth.name = "<init>" := (name_of_methodNamed B.named B.method).1
  subst hsz
  have hD := hD0.self (sz := s.heap.size)
  generalize hAe : va_A [(h0, .inr (12, [.null, .null, .null, .int 0, .int 0, .null, .int 0]))] s.heap.size = A at hD hp0 ⊢
  have hA : ∀ q : Nat, s.heap.size ≤ q → A q := fun q h => by rw [← hAe]; exact Or.inr h
  have hS : va_S A s.heap s.heap [] := va_S.rf
  have hP : va_P (dC, dI) vwP [(h0, .inr (12, [.null, .null, .null, .int 0, .int 0, .null, .int 0]))] s.heap := hP
  have hl := lv_entry ([.ref h0]) (n := 1) (Nat.le_of_ble_eq_true rfl)
  rw [lg_entry_eq]
  generalize (lg_sl ([.ref h0]) ++ List.replicate (1 - (lg_sl ([.ref h0])).length) Slot.unset).toArray = ls at hl ⊢
  have hl : lv_has ls 1 [(0, .ref h0)] := hl
  obtain ⟨H, hH⟩ : ∃ H, H = s.heap := ⟨_, rfl⟩
  rw [← hH] at hP
  have hS : va_S A s.heap H [] := by rw [hH]; exact hS
  rw [← hH]
  refine lv_aload_n hx hb dX13_init_0 rfl (lv_at hl 0 rfl) ?_
  refine W.objInit hx hb hown (ow (k := 0) rfl) (ow (k := 1) rfl) (ow (k := 2) rfl) rfl (by rw [hml]; exact hl.1) rfl dX13_init_1 (Nat.le_of_ble_eq_true rfl) (Nat.le_of_ble_eq_true rfl) ?_
  refine W.eq (g2 := F0 m 4 ls []) rfl ?_
  refine lv_aload_n hx hb dX13_init_4 rfl (lv_at hl 0 rfl) ?_
  refine va_new (ci := 18) (fs := [.int 0, .null, .int 0]) (C := RJx4a65c) (T := TJx4a65c) (N := 3) hx hb hts mem_X13_init_0 tyJx4a65c tyJx4a65c_ok hown (ow (k := 3) rfl) (ow (k := 4) rfl) (ow (k := 5) rfl) hK hP hD hS hA rfl (df_Jx4a65c) (Nat.le_of_ble_eq_true rfl) (Nat.le_of_ble_eq_true rfl) dX13_init_5 (fun q_1 H hP hD hS => ?_)
  have hP : va_P (dC, dI) vwP [(h0, .inr (12, [.null, .null, .null, .int 0, .int 0, .null, .int 0])), (q_1, .inr (18, [.int 0, .null, .int 0]))] H := hP
  have hD : va_D A [(h0, .inr (12, [.null, .null, .null, .int 0, .int 0, .null, .int 0])), (q_1, .inr (18, [.int 0, .null, .int 0]))] := hD
  refine W.widen (k := 1) (n := 3) (Nat.le_of_ble_eq_true rfl) (Nat.le_of_ble_eq_true rfl) ?_
  refine lv_dup hx hb dX13_init_8 rfl ?_
  have hPc := hP.sub (ws' := [(q_1, .inr (18, [.int 0, .null, .int 0]))]) [1] rfl
  have hDc := hD.sub (ws' := [(q_1, .inr (18, [.int 0, .null, .int 0]))]) [1] (by decide) rfl
  have hKc := hK.sub (tys' := []) [] rfl
  have hFc := va_free (wc := [(q_1, .inr (18, [.int 0, .null, .int 0]))]) hD hS hA [1] rfl
  refine va_callv (va_runI (As := []) (rest := [.ref q_1, .ref h0]) ⟨hx, hb, hml, hown, hts⟩ (c_Jx4a65c_init l dC dI q_1 H.size sx_ed) (cwI 0 hts (goodIn_sub mem_X13_init_1 gw_Jx4a65c_init) rfl rfl rfl (ow (k := 5) rfl) (ow (k := 6) rfl) (ow (k := 7) rfl) rfl (by decide +kernel) ⟨(Nat.le_of_ble_eq_true rfl), (Nat.le_of_ble_eq_true rfl)⟩) ⟨fun a U g mk q => by obtain ⟨q0, q1, qP, qK, qD, e0⟩ := q; exact ⟨q0, q1, qP, va_K.moved (u := U) (U := U.calling g mk a) (Vm.Alike.refl U.vm) qK, qD, va_Z.moved (u := U) (U := U.calling g mk a) (Vm.Alike.refl U.vm) e0⟩, fun U hU hW => ⟨rfl, by rw [hU], by rw [hU]; exact hPc, va_K.moved hW.alike hKc, hDc.weaken (fun _ _ _ _ => trivial), by rw [hU]; exact va_Z.narrow (va_Z.moved hW.alike (va_Z.kept hp0 hS.2.1)) hFc⟩⟩ rfl rfl hl.1 rfl (lv_room (Nat.le_of_ble_eq_true rfl)) dX13_init_9 ⟨(Nat.le_of_ble_eq_true rfl), (Nat.le_of_ble_eq_true rfl)⟩) hS (fun q _ h => hFc q h) hFc (fun  u t H1 locs ht hvm hw hB hz1 hk1 hS => ?_)
  obtain ⟨hP1, hK1, hD1⟩ := hB
  rw [ht] at hP1
  have hK1 := va_K.moved hvm.symm hK1
  obtain ⟨hP, hD⟩ := va_join (wr := [(h0, .inr (12, [.null, .null, .null, .int 0, .int 0, .null, .int 0]))]) (w1 := [(q_1, .inr (18, [.int 0, .ref sx_ed, .int 0]))]) hP hD [1] [0] rfl rfl (by decide) (by decide) hk1 hFc hP1 hD1
  have hK := (hK.sub (tys' := []) [] rfl).app hK1
  generalize H1 = H at hP hS ⊢
  have hP : va_P (dC, dI) vwP [(h0, .inr (12, [.null, .null, .null, .int 0, .int 0, .null, .int 0])), (q_1, .inr (18, [.int 0, .ref sx_ed, .int 0]))] H := hP
  have hD : va_D A [(h0, .inr (12, [.null, .null, .null, .int 0, .int 0, .null, .int 0])), (q_1, .inr (18, [.int 0, .ref sx_ed, .int 0]))] := hD
  have hK : va_K (dC, dI) vwP [] s := hK
  refine W.widen (k := 1) (n := 3) (Nat.le_of_ble_eq_true rfl) (Nat.le_of_ble_eq_true rfl) ?_
  refine va_putF (D := (dC, dI)) (ci := 12) (v := .ref q_1) (ty := .object "java/util/ArrayList") (C := RX13) (T := TX13) (N := 7) hx hb hts mem_X13_init_2 tyX13 tyX13_ok nmX13 hown hK hP hD hS 0 rfl rfl 0 (by decide) (ow (k := 8) rfl) (fun _ h9 => h9) rfl hin rfl (by decide +kernel) rfl rfl (Nat.le_of_ble_eq_true rfl) dX13_init_12 (fun H locs hP hD hS => ?_)
  have hP : va_P (dC, dI) vwP [(h0, .inr (12, [.ref q_1, .null, .null, .int 0, .int 0, .null, .int 0])), (q_1, .inr (18, [.int 0, .ref sx_ed, .int 0]))] H := hP
  have hD : va_D A [(h0, .inr (12, [.ref q_1, .null, .null, .int 0, .int 0, .null, .int 0])), (q_1, .inr (18, [.int 0, .ref sx_ed, .int 0]))] := hD
  have hP := hP.sub (ws' := [(h0, .inr (12, [.ref q_1, .null, .null, .int 0, .int 0, .null, .int 0]))]) [0] rfl
  have hD := hD.sub (ws' := [(h0, .inr (12, [.ref q_1, .null, .null, .int 0, .int 0, .null, .int 0]))]) [0] (by decide) rfl
  refine lv_aload_n hx hb dX13_init_15 rfl (lv_at hl 0 rfl) ?_
  refine va_new (ci := 18) (fs := [.int 0, .null, .int 0]) (C := RJx4a65c) (T := TJx4a65c) (N := 3) hx hb hts mem_X13_init_0 tyJx4a65c tyJx4a65c_ok hown (ow (k := 3) rfl) (ow (k := 4) rfl) (ow (k := 5) rfl) hK hP hD hS hA rfl (df_Jx4a65c) (Nat.le_of_ble_eq_true rfl) (Nat.le_of_ble_eq_true rfl) dX13_init_16 (fun q_2 H hP hD hS => ?_)
  have hP : va_P (dC, dI) vwP [(h0, .inr (12, [.ref q_1, .null, .null, .int 0, .int 0, .null, .int 0])), (q_2, .inr (18, [.int 0, .null, .int 0]))] H := hP
  have hD : va_D A [(h0, .inr (12, [.ref q_1, .null, .null, .int 0, .int 0, .null, .int 0])), (q_2, .inr (18, [.int 0, .null, .int 0]))] := hD
  refine W.widen (k := 2) (n := 6) (Nat.le_of_ble_eq_true rfl) (Nat.le_of_ble_eq_true rfl) ?_
  refine lv_dup hx hb dX13_init_19 rfl ?_
  have hPc := hP.sub (ws' := [(q_2, .inr (18, [.int 0, .null, .int 0]))]) [1] rfl
  have hDc := hD.sub (ws' := [(q_2, .inr (18, [.int 0, .null, .int 0]))]) [1] (by decide) rfl
  have hKc := hK.sub (tys' := []) [] rfl
  have hFc := va_free (wc := [(q_2, .inr (18, [.int 0, .null, .int 0]))]) hD hS hA [1] rfl
  refine va_callv (va_runI (As := []) (rest := [.ref q_2, .ref h0]) ⟨hx, hb, hml, hown, hts⟩ (c_Jx4a65c_init l dC dI q_2 H.size sx_ed) (cwI 0 hts (goodIn_sub mem_X13_init_1 gw_Jx4a65c_init) rfl rfl rfl (ow (k := 5) rfl) (ow (k := 6) rfl) (ow (k := 7) rfl) rfl (by decide +kernel) ⟨(Nat.le_of_ble_eq_true rfl), (Nat.le_of_ble_eq_true rfl)⟩) ⟨fun a U g mk q => by obtain ⟨q0, q1, qP, qK, qD, e0⟩ := q; exact ⟨q0, q1, qP, va_K.moved (u := U) (U := U.calling g mk a) (Vm.Alike.refl U.vm) qK, qD, va_Z.moved (u := U) (U := U.calling g mk a) (Vm.Alike.refl U.vm) e0⟩, fun U hU hW => ⟨rfl, by rw [hU], by rw [hU]; exact hPc, va_K.moved hW.alike hKc, hDc.weaken (fun _ _ _ _ => trivial), by rw [hU]; exact va_Z.narrow (va_Z.moved hW.alike (va_Z.kept hp0 hS.2.1)) hFc⟩⟩ rfl rfl hl.1 rfl (lv_room (Nat.le_of_ble_eq_true rfl)) dX13_init_20 ⟨(Nat.le_of_ble_eq_true rfl), (Nat.le_of_ble_eq_true rfl)⟩) hS (fun q _ h => hFc q h) hFc (fun  u t H1 locs ht hvm hw hB hz1 hk1 hS => ?_)
  obtain ⟨hP1, hK1, hD1⟩ := hB
  rw [ht] at hP1
  have hK1 := va_K.moved hvm.symm hK1
  obtain ⟨hP, hD⟩ := va_join (wr := [(h0, .inr (12, [.ref q_1, .null, .null, .int 0, .int 0, .null, .int 0]))]) (w1 := [(q_2, .inr (18, [.int 0, .ref sx_ed, .int 0]))]) hP hD [1] [0] rfl rfl (by decide) (by decide) hk1 hFc hP1 hD1
  have hK := (hK.sub (tys' := []) [] rfl).app hK1
  generalize H1 = H at hP hS ⊢
  have hP : va_P (dC, dI) vwP [(h0, .inr (12, [.ref q_1, .null, .null, .int 0, .int 0, .null, .int 0])), (q_2, .inr (18, [.int 0, .ref sx_ed, .int 0]))] H := hP
  have hD : va_D A [(h0, .inr (12, [.ref q_1, .null, .null, .int 0, .int 0, .null, .int 0])), (q_2, .inr (18, [.int 0, .ref sx_ed, .int 0]))] := hD
  have hK : va_K (dC, dI) vwP [] s := hK
  refine W.widen (k := 2) (n := 6) (Nat.le_of_ble_eq_true rfl) (Nat.le_of_ble_eq_true rfl) ?_
  refine va_putF (D := (dC, dI)) (ci := 12) (v := .ref q_2) (ty := .object "java/util/ArrayList") (C := RX13) (T := TX13) (N := 7) hx hb hts mem_X13_init_2 tyX13 tyX13_ok nmX13 hown hK hP hD hS 0 rfl rfl 1 (by decide) (ow (k := 9) rfl) (fun _ h9 => h9) rfl hin rfl (by decide +kernel) rfl rfl (Nat.le_of_ble_eq_true rfl) dX13_init_23 (fun H locs hP hD hS => ?_)
  have hP : va_P (dC, dI) vwP [(h0, .inr (12, [.ref q_1, .ref q_2, .null, .int 0, .int 0, .null, .int 0])), (q_2, .inr (18, [.int 0, .ref sx_ed, .int 0]))] H := hP
  have hD : va_D A [(h0, .inr (12, [.ref q_1, .ref q_2, .null, .int 0, .int 0, .null, .int 0])), (q_2, .inr (18, [.int 0, .ref sx_ed, .int 0]))] := hD
  have hP := hP.sub (ws' := [(h0, .inr (12, [.ref q_1, .ref q_2, .null, .int 0, .int 0, .null, .int 0]))]) [0] rfl
  have hD := hD.sub (ws' := [(h0, .inr (12, [.ref q_1, .ref q_2, .null, .int 0, .int 0, .null, .int 0]))]) [0] (by decide) rfl
  refine lv_aload_n hx hb dX13_init_26 rfl (lv_at hl 0 rfl) ?_
  refine va_new (ci := 18) (fs := [.int 0, .null, .int 0]) (C := RJx4a65c) (T := TJx4a65c) (N := 3) hx hb hts mem_X13_init_0 tyJx4a65c tyJx4a65c_ok hown (ow (k := 3) rfl) (ow (k := 4) rfl) (ow (k := 5) rfl) hK hP hD hS hA rfl (df_Jx4a65c) (Nat.le_of_ble_eq_true rfl) (Nat.le_of_ble_eq_true rfl) dX13_init_27 (fun q_3 H hP hD hS => ?_)
  have hP : va_P (dC, dI) vwP [(h0, .inr (12, [.ref q_1, .ref q_2, .null, .int 0, .int 0, .null, .int 0])), (q_3, .inr (18, [.int 0, .null, .int 0]))] H := hP
  have hD : va_D A [(h0, .inr (12, [.ref q_1, .ref q_2, .null, .int 0, .int 0, .null, .int 0])), (q_3, .inr (18, [.int 0, .null, .int 0]))] := hD
  refine W.widen (k := 3) (n := 9) (Nat.le_of_ble_eq_true rfl) (Nat.le_of_ble_eq_true rfl) ?_
  refine lv_dup hx hb dX13_init_30 rfl ?_
  have hPc := hP.sub (ws' := [(q_3, .inr (18, [.int 0, .null, .int 0]))]) [1] rfl
  have hDc := hD.sub (ws' := [(q_3, .inr (18, [.int 0, .null, .int 0]))]) [1] (by decide) rfl
  have hKc := hK.sub (tys' := []) [] rfl
  have hFc := va_free (wc := [(q_3, .inr (18, [.int 0, .null, .int 0]))]) hD hS hA [1] rfl
  refine va_callv (va_runI (As := []) (rest := [.ref q_3, .ref h0]) ⟨hx, hb, hml, hown, hts⟩ (c_Jx4a65c_init l dC dI q_3 H.size sx_ed) (cwI 0 hts (goodIn_sub mem_X13_init_1 gw_Jx4a65c_init) rfl rfl rfl (ow (k := 5) rfl) (ow (k := 6) rfl) (ow (k := 7) rfl) rfl (by decide +kernel) ⟨(Nat.le_of_ble_eq_true rfl), (Nat.le_of_ble_eq_true rfl)⟩) ⟨fun a U g mk q => by obtain ⟨q0, q1, qP, qK, qD, e0⟩ := q; exact ⟨q0, q1, qP, va_K.moved (u := U) (U := U.calling g mk a) (Vm.Alike.refl U.vm) qK, qD, va_Z.moved (u := U) (U := U.calling g mk a) (Vm.Alike.refl U.vm) e0⟩, fun U hU hW => ⟨rfl, by rw [hU], by rw [hU]; exact hPc, va_K.moved hW.alike hKc, hDc.weaken (fun _ _ _ _ => trivial), by rw [hU]; exact va_Z.narrow (va_Z.moved hW.alike (va_Z.kept hp0 hS.2.1)) hFc⟩⟩ rfl rfl hl.1 rfl (lv_room (Nat.le_of_ble_eq_true rfl)) dX13_init_31 ⟨(Nat.le_of_ble_eq_true rfl), (Nat.le_of_ble_eq_true rfl)⟩) hS (fun q _ h => hFc q h) hFc (fun  u t H1 locs ht hvm hw hB hz1 hk1 hS => ?_)
  obtain ⟨hP1, hK1, hD1⟩ := hB
  rw [ht] at hP1
  have hK1 := va_K.moved hvm.symm hK1
  obtain ⟨hP, hD⟩ := va_join (wr := [(h0, .inr (12, [.ref q_1, .ref q_2, .null, .int 0, .int 0, .null, .int 0]))]) (w1 := [(q_3, .inr (18, [.int 0, .ref sx_ed, .int 0]))]) hP hD [1] [0] rfl rfl (by decide) (by decide) hk1 hFc hP1 hD1
  have hK := (hK.sub (tys' := []) [] rfl).app hK1
  generalize H1 = H at hP hS ⊢
  have hP : va_P (dC, dI) vwP [(h0, .inr (12, [.ref q_1, .ref q_2, .null, .int 0, .int 0, .null, .int 0])), (q_3, .inr (18, [.int 0, .ref sx_ed, .int 0]))] H := hP
  have hD : va_D A [(h0, .inr (12, [.ref q_1, .ref q_2, .null, .int 0, .int 0, .null, .int 0])), (q_3, .inr (18, [.int 0, .ref sx_ed, .int 0]))] := hD
  have hK : va_K (dC, dI) vwP [] s := hK
  refine W.widen (k := 3) (n := 9) (Nat.le_of_ble_eq_true rfl) (Nat.le_of_ble_eq_true rfl) ?_
  refine va_putF (D := (dC, dI)) (ci := 12) (v := .ref q_3) (ty := .object "java/util/ArrayList") (C := RX13) (T := TX13) (N := 7) hx hb hts mem_X13_init_2 tyX13 tyX13_ok nmX13 hown hK hP hD hS 0 rfl rfl 2 (by decide) (ow (k := 10) rfl) (fun _ h9 => h9) rfl hin rfl (by decide +kernel) rfl rfl (Nat.le_of_ble_eq_true rfl) dX13_init_34 (fun H locs hP hD hS => ?_)
  have hP : va_P (dC, dI) vwP [(h0, .inr (12, [.ref q_1, .ref q_2, .ref q_3, .int 0, .int 0, .null, .int 0])), (q_3, .inr (18, [.int 0, .ref sx_ed, .int 0]))] H := hP
  have hD : va_D A [(h0, .inr (12, [.ref q_1, .ref q_2, .ref q_3, .int 0, .int 0, .null, .int 0])), (q_3, .inr (18, [.int 0, .ref sx_ed, .int 0]))] := hD
  have hP := hP.sub (ws' := [(h0, .inr (12, [.ref q_1, .ref q_2, .ref q_3, .int 0, .int 0, .null, .int 0]))]) [0] rfl
  have hD := hD.sub (ws' := [(h0, .inr (12, [.ref q_1, .ref q_2, .ref q_3, .int 0, .int 0, .null, .int 0]))]) [0] (by decide) rfl
  refine lv_aload_n hx hb dX13_init_37 rfl (lv_at hl 0 rfl) ?_
  refine va_new (ci := 18) (fs := [.int 0, .null, .int 0]) (C := RJx4a65c) (T := TJx4a65c) (N := 3) hx hb hts mem_X13_init_0 tyJx4a65c tyJx4a65c_ok hown (ow (k := 3) rfl) (ow (k := 4) rfl) (ow (k := 5) rfl) hK hP hD hS hA rfl (df_Jx4a65c) (Nat.le_of_ble_eq_true rfl) (Nat.le_of_ble_eq_true rfl) dX13_init_38 (fun q_4 H hP hD hS => ?_)
  have hP : va_P (dC, dI) vwP [(h0, .inr (12, [.ref q_1, .ref q_2, .ref q_3, .int 0, .int 0, .null, .int 0])), (q_4, .inr (18, [.int 0, .null, .int 0]))] H := hP
  have hD : va_D A [(h0, .inr (12, [.ref q_1, .ref q_2, .ref q_3, .int 0, .int 0, .null, .int 0])), (q_4, .inr (18, [.int 0, .null, .int 0]))] := hD
  refine W.widen (k := 4) (n := 12) (Nat.le_of_ble_eq_true rfl) (Nat.le_of_ble_eq_true rfl) ?_
  refine lv_dup hx hb dX13_init_41 rfl ?_
  have hPc := hP.sub (ws' := [(q_4, .inr (18, [.int 0, .null, .int 0]))]) [1] rfl
  have hDc := hD.sub (ws' := [(q_4, .inr (18, [.int 0, .null, .int 0]))]) [1] (by decide) rfl
  have hKc := hK.sub (tys' := []) [] rfl
  have hFc := va_free (wc := [(q_4, .inr (18, [.int 0, .null, .int 0]))]) hD hS hA [1] rfl
  refine va_callv (va_runI (As := []) (rest := [.ref q_4, .ref h0]) ⟨hx, hb, hml, hown, hts⟩ (c_Jx4a65c_init l dC dI q_4 H.size sx_ed) (cwI 0 hts (goodIn_sub mem_X13_init_1 gw_Jx4a65c_init) rfl rfl rfl (ow (k := 5) rfl) (ow (k := 6) rfl) (ow (k := 7) rfl) rfl (by decide +kernel) ⟨(Nat.le_of_ble_eq_true rfl), (Nat.le_of_ble_eq_true rfl)⟩) ⟨fun a U g mk q => by obtain ⟨q0, q1, qP, qK, qD, e0⟩ := q; exact ⟨q0, q1, qP, va_K.moved (u := U) (U := U.calling g mk a) (Vm.Alike.refl U.vm) qK, qD, va_Z.moved (u := U) (U := U.calling g mk a) (Vm.Alike.refl U.vm) e0⟩, fun U hU hW => ⟨rfl, by rw [hU], by rw [hU]; exact hPc, va_K.moved hW.alike hKc, hDc.weaken (fun _ _ _ _ => trivial), by rw [hU]; exact va_Z.narrow (va_Z.moved hW.alike (va_Z.kept hp0 hS.2.1)) hFc⟩⟩ rfl rfl hl.1 rfl (lv_room (Nat.le_of_ble_eq_true rfl)) dX13_init_42 ⟨(Nat.le_of_ble_eq_true rfl), (Nat.le_of_ble_eq_true rfl)⟩) hS (fun q _ h => hFc q h) hFc (fun  u t H1 locs ht hvm hw hB hz1 hk1 hS => ?_)
  obtain ⟨hP1, hK1, hD1⟩ := hB
  rw [ht] at hP1
  have hK1 := va_K.moved hvm.symm hK1
  obtain ⟨hP, hD⟩ := va_join (wr := [(h0, .inr (12, [.ref q_1, .ref q_2, .ref q_3, .int 0, .int 0, .null, .int 0]))]) (w1 := [(q_4, .inr (18, [.int 0, .ref sx_ed, .int 0]))]) hP hD [1] [0] rfl rfl (by decide) (by decide) hk1 hFc hP1 hD1
  have hK := (hK.sub (tys' := []) [] rfl).app hK1
  generalize H1 = H at hP hS ⊢
  have hP : va_P (dC, dI) vwP [(h0, .inr (12, [.ref q_1, .ref q_2, .ref q_3, .int 0, .int 0, .null, .int 0])), (q_4, .inr (18, [.int 0, .ref sx_ed, .int 0]))] H := hP
  have hD : va_D A [(h0, .inr (12, [.ref q_1, .ref q_2, .ref q_3, .int 0, .int 0, .null, .int 0])), (q_4, .inr (18, [.int 0, .ref sx_ed, .int 0]))] := hD
  have hK : va_K (dC, dI) vwP [] s := hK
  refine W.widen (k := 4) (n := 12) (Nat.le_of_ble_eq_true rfl) (Nat.le_of_ble_eq_true rfl) ?_
  refine va_putF (D := (dC, dI)) (ci := 12) (v := .ref q_4) (ty := .object "java/util/ArrayList") (C := RX13) (T := TX13) (N := 7) hx hb hts mem_X13_init_2 tyX13 tyX13_ok nmX13 hown hK hP hD hS 0 rfl rfl 5 (by decide) (ow (k := 11) rfl) (fun _ h9 => h9) rfl hin rfl (by decide +kernel) rfl rfl (Nat.le_of_ble_eq_true rfl) dX13_init_45 (fun H locs hP hD hS => ?_)
  have hP : va_P (dC, dI) vwP [(h0, .inr (12, [.ref q_1, .ref q_2, .ref q_3, .int 0, .int 0, .ref q_4, .int 0])), (q_4, .inr (18, [.int 0, .ref sx_ed, .int 0]))] H := hP
  have hD : va_D A [(h0, .inr (12, [.ref q_1, .ref q_2, .ref q_3, .int 0, .int 0, .ref q_4, .int 0])), (q_4, .inr (18, [.int 0, .ref sx_ed, .int 0]))] := hD
  refine W.widen (k := 4) (n := 12) (Nat.le_of_ble_eq_true rfl) (Nat.le_of_ble_eq_true rfl) ?_
  exact W.vret hx hb hr (fun t ht hW => ⟨⟨(), rfl, trivial, q_1, q_2, q_3, q_4, by rw [ht]; exact hP, va_K.moved hW.alike hK, hD⟩, hS.F ht⟩) hS.2.2 dX13_init_48
theorem dX14_init_0 : decode cX14_init 0 = .ok (.aload_n 0, 1) := by decide +kernel
theorem dX14_init_1 : decode cX14_init 1 = .ok (.invokespecial 3, 3) := by decide +kernel
theorem dX14_init_4 : decode cX14_init 4 = .ok (.aload_n 0, 1) := by decide +kernel
theorem dX14_init_5 : decode cX14_init 5 = .ok (.iconst 0, 1) := by decide +kernel
theorem dX14_init_6 : decode cX14_init 6 = .ok (.newarray .boolean, 2) := by decide +kernel
theorem dX14_init_8 : decode cX14_init 8 = .ok (.putfield 9, 3) := by decide +kernel
theorem dX14_init_11 : decode cX14_init 11 = .ok (.aload_n 0, 1) := by decide +kernel
theorem dX14_init_12 : decode cX14_init 12 = .ok (.iconst 0, 1) := by decide +kernel
theorem dX14_init_13 : decode cX14_init 13 = .ok (.anewarray 15, 3) := by decide +kernel
theorem dX14_init_16 : decode cX14_init 16 = .ok (.putfield 16, 3) := by decide +kernel
theorem dX14_init_19 : decode cX14_init 19 = .ok (.aload_n 0, 1) := by decide +kernel
theorem dX14_init_20 : decode cX14_init 20 = .ok (.iconst 0, 1) := by decide +kernel
theorem dX14_init_21 : decode cX14_init 21 = .ok (.newarray .int, 2) := by decide +kernel
theorem dX14_init_23 : decode cX14_init 23 = .ok (.putfield 20, 3) := by decide +kernel
theorem dX14_init_26 : decode cX14_init 26 = .ok (.aload_n 0, 1) := by decide +kernel
theorem dX14_init_27 : decode cX14_init 27 = .ok (.iconst 0, 1) := by decide +kernel
theorem dX14_init_28 : decode cX14_init 28 = .ok (.newarray .int, 2) := by decide +kernel
theorem dX14_init_30 : decode cX14_init 30 = .ok (.putfield 24, 3) := by decide +kernel
theorem dX14_init_33 : decode cX14_init 33 = .ok (.aload_n 0, 1) := by decide +kernel
theorem dX14_init_34 : decode cX14_init 34 = .ok (.iconst 0, 1) := by decide +kernel
theorem dX14_init_35 : decode cX14_init 35 = .ok (.newarray .int, 2) := by decide +kernel
theorem dX14_init_37 : decode cX14_init 37 = .ok (.putfield 27, 3) := by decide +kernel
theorem dX14_init_40 : decode cX14_init 40 = .ok (.aload_n 0, 1) := by decide +kernel
theorem dX14_init_41 : decode cX14_init 41 = .ok (.iconst 0, 1) := by decide +kernel
theorem dX14_init_42 : decode cX14_init 42 = .ok (.newarray .int, 2) := by decide +kernel
theorem dX14_init_44 : decode cX14_init 44 = .ok (.putfield 30, 3) := by decide +kernel
theorem dX14_init_47 : decode cX14_init 47 = .ok (.aload_n 0, 1) := by decide +kernel
theorem dX14_init_48 : decode cX14_init 48 = .ok (.iconst 0, 1) := by decide +kernel
theorem dX14_init_49 : decode cX14_init 49 = .ok (.newarray .boolean, 2) := by decide +kernel
theorem dX14_init_51 : decode cX14_init 51 = .ok (.putfield 33, 3) := by decide +kernel
theorem dX14_init_54 : decode cX14_init 54 = .ok (.aload_n 0, 1) := by decide +kernel
theorem dX14_init_55 : decode cX14_init 55 = .ok (.iconst 0, 1) := by decide +kernel
theorem dX14_init_56 : decode cX14_init 56 = .ok (.anewarray 15, 3) := by decide +kernel
theorem dX14_init_59 : decode cX14_init 59 = .ok (.putfield 36, 3) := by decide +kernel
theorem dX14_init_62 : decode cX14_init 62 = .ok (.aload_n 0, 1) := by decide +kernel
theorem dX14_init_63 : decode cX14_init 63 = .ok (.sipush 1002, 3) := by decide +kernel
theorem dX14_init_66 : decode cX14_init 66 = .ok (.newarray .boolean, 2) := by decide +kernel
theorem dX14_init_68 : decode cX14_init 68 = .ok (.putfield 39, 3) := by decide +kernel
theorem dX14_init_71 : decode cX14_init 71 = .ok (.aload_n 0, 1) := by decide +kernel
theorem dX14_init_72 : decode cX14_init 72 = .ok (.sipush 1002, 3) := by decide +kernel
theorem dX14_init_75 : decode cX14_init 75 = .ok (.newarray .boolean, 2) := by decide +kernel
theorem dX14_init_77 : decode cX14_init 77 = .ok (.putfield 42, 3) := by decide +kernel
theorem dX14_init_80 : decode cX14_init 80 = .ok (.return_, 1) := by decide +kernel
def o_X14_init : List Cond := [.methodLink RX14 3 objectInit, .instanceMethod objectInit, .code objectInit ⟨#[0xb1]⟩ 1 none, .arrayClass .boolean, .fieldLink RX14 9 "SsaForgeModel$Flow" "reached" "[Z", .classLink RX14 15 "[Z", .fieldLink RX14 16 "SsaForgeModel$Flow" "dominates" "[[Z", .arrayClass .int, .fieldLink RX14 20 "SsaForgeModel$Flow" "idom" "[I", .fieldLink RX14 24 "SsaForgeModel$Flow" "order" "[I", .fieldLink RX14 27 "SsaForgeModel$Flow" "stack" "[I", .fieldLink RX14 30 "SsaForgeModel$Flow" "depth" "[I", .fieldLink RX14 33 "SsaForgeModel$Flow" "seen" "[Z", .fieldLink RX14 36 "SsaForgeModel$Flow" "live" "[[Z", .fieldLink RX14 39 "SsaForgeModel$Flow" "now" "[Z", .fieldLink RX14 42 "SsaForgeModel$Flow" "phi" "[Z"]
def v_X14_init : List Cond := .code yX14_init cX14_init 1 none :: (o_X14_init ++ (wsX140 ++ []))
theorem mow_X14_init : ∀ w ∈ o_X14_init, w ∈ v_X14_init := fun _ h => List.mem_cons_of_mem _ (List.mem_append_left _ h)
theorem mem_X14_init_0 : ∀ w ∈ wsX140, w ∈ v_X14_init := fun _ h => List.mem_cons_of_mem _ (List.mem_append_right _ (List.mem_append_left _ h))
set_option maxRecDepth 20000 in
theorem gw_X14_init : v_X14_init.all goodWord = true := by decide +kernel
set_option maxHeartbeats 4000000 in
set_option maxRecDepth 100000 in
theorem c_X14_init (l : Launch) (dC : Nat → ClassId) (dI : Nat → Nat → Nat) (h0 : Nat) (sz : Nat) : Met l yX14_init v_X14_init ({ frames := 1, cells := 10, slots := 2004, locals := 12 }) (va_Pc [.ref h0] (fun U => U.heap.size = sz ∧ va_P (dC, dI) vwP [(h0, .inr (13, [.null, .int 0, .null, .null, .null, .null, .int 0, .null, .null, .null, .null, .null, .null]))] U.heap ∧ va_K (dC, dI) vwP [] U ∧ va_D (fun _ => True) [(h0, .inr (13, [.null, .int 0, .null, .null, .null, .null, .int 0, .null, .null, .null, .null, .null, .null]))] ∧ vy_AO .boolean U)) (va_Qv (fun _ : Unit => True) (fun (_ : Unit) (t : State) => ∃ (q_1 : Nat) (q_3 : Nat) (q_4 : Nat) (q_6 : Nat) (q_8 : Nat) (q_10 : Nat) (q_12 : Nat) (q_14 : Nat) (q_15 : Nat) (q_17 : Nat), va_P (dC, dI) vwP [(h0, .inr (13, [.null, .int 0, .ref q_1, .ref q_3, .ref q_4, .ref q_6, .int 0, .ref q_8, .ref q_10, .ref q_12, .ref q_14, .ref q_15, .ref q_17]))] t.heap ∧ va_K (dC, dI) vwP [] t ∧ va_D (va_A [(h0, .inr (13, [.null, .int 0, .null, .null, .null, .null, .int 0, .null, .null, .null, .null, .null, .null]))] sz) [(h0, .inr (13, [.null, .int 0, .ref q_1, .ref q_3, .ref q_4, .ref q_6, .int 0, .ref q_8, .ref q_10, .ref q_12, .ref q_14, .ref q_15, .ref q_17]))]) (va_A [(h0, .inr (13, [.null, .int 0, .null, .null, .null, .null, .int 0, .null, .null, .null, .null, .null, .null]))] sz)) 10 2004 (va_A [(h0, .inr (13, [.null, .int 0, .null, .null, .null, .null, .int 0, .null, .null, .null, .null, .null, .null]))] sz) := by
  refine Met.ofW (cc := cX14_init) (maxL := 1) (ret := none) (by decide) rfl ?_
  intro p e s m args below meth c s₁ B hml hv
  obtain ⟨rfl, hsz, hP, hK, hD0, hp0⟩ := hv
  have hx := B.exec
  have hb := B.bytes
  have hr := B.returns
  have hts := atoms_spec (ws := v_X14_init) B.pre
  have hown : s.vm.findClass RX14 = some m.cls := findClass_of_methodNamed B.named
  have hlocks := B.notSynchronized
  have ow : ∀ {k : Nat} {w : Cond}, o_X14_init[k]? = some w → w.before ([.ref h0] : List Value).toArray s = true := fun h => hts _ (mow_X14_init _ (List.mem_of_getElem? h))
  have hin : meth.name = "<init>" := (name_of_methodNamed B.named B.method).1
  subst hsz
  have hD := hD0.self (sz := s.heap.size)
  generalize hAe : va_A [(h0, .inr (13, [.null, .int 0, .null, .null, .null, .null, .int 0, .null, .null, .null, .null, .null, .null]))] s.heap.size = A at hD ⊢
  have hA : ∀ q : Nat, s.heap.size ≤ q → A q := fun q h => by rw [← hAe]; exact Or.inr h
  have hS : va_S A s.heap s.heap [] := va_S.rf
  have hP : va_P (dC, dI) vwP [(h0, .inr (13, [.null, .int 0, .null, .null, .null, .null, .int 0, .null, .null, .null, .null, .null, .null]))] s.heap := hP
  have hl := lv_entry ([.ref h0]) (n := 1) (Nat.le_of_ble_eq_true rfl)
  rw [lg_entry_eq]
  generalize (lg_sl ([.ref h0]) ++ List.replicate (1 - (lg_sl ([.ref h0])).length) Slot.unset).toArray = ls at hl ⊢
  have hl : lv_has ls 1 [(0, .ref h0)] := hl
  obtain ⟨H, hH⟩ : ∃ H, H = s.heap := ⟨_, rfl⟩
  rw [← hH] at hP
  have hS : va_S A s.heap H [] := by rw [hH]; exact hS
  rw [← hH]
  refine lv_aload_n hx hb dX14_init_0 rfl (lv_at hl 0 rfl) ?_
  refine W.objInit hx hb hown (ow (k := 0) rfl) (ow (k := 1) rfl) (ow (k := 2) rfl) rfl (by rw [hml]; exact hl.1) rfl dX14_init_1 (Nat.le_of_ble_eq_true rfl) (Nat.le_of_ble_eq_true rfl) ?_
  refine W.eq (g2 := F0 m 4 ls []) rfl ?_
  refine lv_aload_n hx hb dX14_init_4 rfl (lv_at hl 0 rfl) ?_
  refine lv_iconst (v := 0) hx hb dX14_init_5 (by decide) ?_
  refine va_newa (ty := .boolean) (n := 0) (N' := 0) (a0 := (0, .inl (fun _ => 0))) hx hb (ow (k := 3) rfl) rfl hK hP hD hS hA (fun _ => rfl) (by decide) (by decide) (by decide) (Nat.le_of_ble_eq_true rfl) (Nat.le_of_ble_eq_true rfl) dX14_init_6 (fun q_1 cA_2 H hK hP hD hS => ?_)
  have hP : va_P (dC, dI) vwP [(h0, .inr (13, [.null, .int 0, .null, .null, .null, .null, .int 0, .null, .null, .null, .null, .null, .null])), (q_1, .inl (cA_2, 0, .inl (fun _ => 0)))] H := hP
  have hD : va_D A [(h0, .inr (13, [.null, .int 0, .null, .null, .null, .null, .int 0, .null, .null, .null, .null, .null, .null])), (q_1, .inl (cA_2, 0, .inl (fun _ => 0)))] := hD
  have hK : va_K (dC, dI) vwP [(cA_2, .boolean)] s := hK
  refine W.widen (k := 1) (n := 0) (Nat.le_of_ble_eq_true rfl) (Nat.le_of_ble_eq_true rfl) ?_
  refine va_put (D := (dC, dI)) (ci := 13) (v := .ref q_1) (ty := .array .boolean) (C := RX14) (T := TX14) (N := 13) hx hb hts mem_X14_init_0 tyX14 tyX14_ok nmX14 hown hK hP hD hS 0 rfl rfl 2 (by decide) (ow (k := 4) rfl) (fun _ h9 => h9) rfl (by decide +kernel) rfl rfl (Nat.le_of_ble_eq_true rfl) dX14_init_8 (fun H locs hP hD hS => ?_)
  have hP : va_P (dC, dI) vwP [(h0, .inr (13, [.null, .int 0, .ref q_1, .null, .null, .null, .int 0, .null, .null, .null, .null, .null, .null])), (q_1, .inl (cA_2, 0, .inl (fun _ => 0)))] H := hP
  have hD : va_D A [(h0, .inr (13, [.null, .int 0, .ref q_1, .null, .null, .null, .int 0, .null, .null, .null, .null, .null, .null])), (q_1, .inl (cA_2, 0, .inl (fun _ => 0)))] := hD
  have hP := hP.sub (ws' := [(h0, .inr (13, [.null, .int 0, .ref q_1, .null, .null, .null, .int 0, .null, .null, .null, .null, .null, .null]))]) [0] rfl
  have hD := hD.sub (ws' := [(h0, .inr (13, [.null, .int 0, .ref q_1, .null, .null, .null, .int 0, .null, .null, .null, .null, .null, .null]))]) [0] (by decide) rfl
  have hK := hK.sub (tys' := []) [] rfl
  refine lv_aload_n hx hb dX14_init_11 rfl (lv_at hl 0 rfl) ?_
  refine lv_iconst (v := 0) hx hb dX14_init_12 (by decide) ?_
  refine vy_anew (t := .boolean) (N' := 0) hx hb hown (ow (k := 5) rfl) hp0 hP hD hS (by decide) (by decide) (by decide) (Nat.le_of_ble_eq_true rfl) (Nat.le_of_ble_eq_true rfl) dX14_init_13 (fun q_3 H hP hS => ?_)
  have hP : va_P (dC, dI) vwP [(h0, .inr (13, [.null, .int 0, .ref q_1, .null, .null, .null, .int 0, .null, .null, .null, .null, .null, .null]))] H := hP
  have hD : va_D A [(h0, .inr (13, [.null, .int 0, .ref q_1, .null, .null, .null, .int 0, .null, .null, .null, .null, .null, .null]))] := hD
  refine W.widen (k := 2) (n := 0) (Nat.le_of_ble_eq_true rfl) (Nat.le_of_ble_eq_true rfl) ?_
  refine va_put (D := (dC, dI)) (ci := 13) (v := .ref q_3) (ty := .array (.array .boolean)) (C := RX14) (T := TX14) (N := 13) hx hb hts mem_X14_init_0 tyX14 tyX14_ok nmX14 hown hK hP hD hS 0 rfl rfl 3 (by decide) (ow (k := 6) rfl) (fun _ h9 => h9) rfl (by decide +kernel) rfl rfl (Nat.le_of_ble_eq_true rfl) dX14_init_16 (fun H locs hP hD hS => ?_)
  have hP : va_P (dC, dI) vwP [(h0, .inr (13, [.null, .int 0, .ref q_1, .ref q_3, .null, .null, .int 0, .null, .null, .null, .null, .null, .null]))] H := hP
  have hD : va_D A [(h0, .inr (13, [.null, .int 0, .ref q_1, .ref q_3, .null, .null, .int 0, .null, .null, .null, .null, .null, .null]))] := hD
  refine lv_aload_n hx hb dX14_init_19 rfl (lv_at hl 0 rfl) ?_
  refine lv_iconst (v := 0) hx hb dX14_init_20 (by decide) ?_
  refine va_newa (ty := .int) (n := 0) (N' := 0) (a0 := (0, .inl (fun _ => 0))) hx hb (ow (k := 7) rfl) rfl hK hP hD hS hA (fun _ => rfl) (by decide) (by decide) (by decide) (Nat.le_of_ble_eq_true rfl) (Nat.le_of_ble_eq_true rfl) dX14_init_21 (fun q_4 cA_5 H hK hP hD hS => ?_)
  have hP : va_P (dC, dI) vwP [(h0, .inr (13, [.null, .int 0, .ref q_1, .ref q_3, .null, .null, .int 0, .null, .null, .null, .null, .null, .null])), (q_4, .inl (cA_5, 0, .inl (fun _ => 0)))] H := hP
  have hD : va_D A [(h0, .inr (13, [.null, .int 0, .ref q_1, .ref q_3, .null, .null, .int 0, .null, .null, .null, .null, .null, .null])), (q_4, .inl (cA_5, 0, .inl (fun _ => 0)))] := hD
  have hK : va_K (dC, dI) vwP [(cA_5, .int)] s := hK
  refine W.widen (k := 3) (n := 0) (Nat.le_of_ble_eq_true rfl) (Nat.le_of_ble_eq_true rfl) ?_
  refine va_put (D := (dC, dI)) (ci := 13) (v := .ref q_4) (ty := .array .int) (C := RX14) (T := TX14) (N := 13) hx hb hts mem_X14_init_0 tyX14 tyX14_ok nmX14 hown hK hP hD hS 0 rfl rfl 4 (by decide) (ow (k := 8) rfl) (fun _ h9 => h9) rfl (by decide +kernel) rfl rfl (Nat.le_of_ble_eq_true rfl) dX14_init_23 (fun H locs hP hD hS => ?_)
  have hP : va_P (dC, dI) vwP [(h0, .inr (13, [.null, .int 0, .ref q_1, .ref q_3, .ref q_4, .null, .int 0, .null, .null, .null, .null, .null, .null])), (q_4, .inl (cA_5, 0, .inl (fun _ => 0)))] H := hP
  have hD : va_D A [(h0, .inr (13, [.null, .int 0, .ref q_1, .ref q_3, .ref q_4, .null, .int 0, .null, .null, .null, .null, .null, .null])), (q_4, .inl (cA_5, 0, .inl (fun _ => 0)))] := hD
  have hP := hP.sub (ws' := [(h0, .inr (13, [.null, .int 0, .ref q_1, .ref q_3, .ref q_4, .null, .int 0, .null, .null, .null, .null, .null, .null]))]) [0] rfl
  have hD := hD.sub (ws' := [(h0, .inr (13, [.null, .int 0, .ref q_1, .ref q_3, .ref q_4, .null, .int 0, .null, .null, .null, .null, .null, .null]))]) [0] (by decide) rfl
  have hK := hK.sub (tys' := []) [] rfl
  refine lv_aload_n hx hb dX14_init_26 rfl (lv_at hl 0 rfl) ?_
  refine lv_iconst (v := 0) hx hb dX14_init_27 (by decide) ?_
  refine va_newa (ty := .int) (n := 0) (N' := 0) (a0 := (0, .inl (fun _ => 0))) hx hb (ow (k := 7) rfl) rfl hK hP hD hS hA (fun _ => rfl) (by decide) (by decide) (by decide) (Nat.le_of_ble_eq_true rfl) (Nat.le_of_ble_eq_true rfl) dX14_init_28 (fun q_6 cA_7 H hK hP hD hS => ?_)
  have hP : va_P (dC, dI) vwP [(h0, .inr (13, [.null, .int 0, .ref q_1, .ref q_3, .ref q_4, .null, .int 0, .null, .null, .null, .null, .null, .null])), (q_6, .inl (cA_7, 0, .inl (fun _ => 0)))] H := hP
  have hD : va_D A [(h0, .inr (13, [.null, .int 0, .ref q_1, .ref q_3, .ref q_4, .null, .int 0, .null, .null, .null, .null, .null, .null])), (q_6, .inl (cA_7, 0, .inl (fun _ => 0)))] := hD
  have hK : va_K (dC, dI) vwP [(cA_7, .int)] s := hK
  refine W.widen (k := 4) (n := 0) (Nat.le_of_ble_eq_true rfl) (Nat.le_of_ble_eq_true rfl) ?_
  refine va_put (D := (dC, dI)) (ci := 13) (v := .ref q_6) (ty := .array .int) (C := RX14) (T := TX14) (N := 13) hx hb hts mem_X14_init_0 tyX14 tyX14_ok nmX14 hown hK hP hD hS 0 rfl rfl 5 (by decide) (ow (k := 9) rfl) (fun _ h9 => h9) rfl (by decide +kernel) rfl rfl (Nat.le_of_ble_eq_true rfl) dX14_init_30 (fun H locs hP hD hS => ?_)
  have hP : va_P (dC, dI) vwP [(h0, .inr (13, [.null, .int 0, .ref q_1, .ref q_3, .ref q_4, .ref q_6, .int 0, .null, .null, .null, .null, .null, .null])), (q_6, .inl (cA_7, 0, .inl (fun _ => 0)))] H := hP
  have hD : va_D A [(h0, .inr (13, [.null, .int 0, .ref q_1, .ref q_3, .ref q_4, .ref q_6, .int 0, .null, .null, .null, .null, .null, .null])), (q_6, .inl (cA_7, 0, .inl (fun _ => 0)))] := hD
  have hP := hP.sub (ws' := [(h0, .inr (13, [.null, .int 0, .ref q_1, .ref q_3, .ref q_4, .ref q_6, .int 0, .null, .null, .null, .null, .null, .null]))]) [0] rfl
  have hD := hD.sub (ws' := [(h0, .inr (13, [.null, .int 0, .ref q_1, .ref q_3, .ref q_4, .ref q_6, .int 0, .null, .null, .null, .null, .null, .null]))]) [0] (by decide) rfl
  have hK := hK.sub (tys' := []) [] rfl
  refine lv_aload_n hx hb dX14_init_33 rfl (lv_at hl 0 rfl) ?_
  refine lv_iconst (v := 0) hx hb dX14_init_34 (by decide) ?_
  refine va_newa (ty := .int) (n := 0) (N' := 0) (a0 := (0, .inl (fun _ => 0))) hx hb (ow (k := 7) rfl) rfl hK hP hD hS hA (fun _ => rfl) (by decide) (by decide) (by decide) (Nat.le_of_ble_eq_true rfl) (Nat.le_of_ble_eq_true rfl) dX14_init_35 (fun q_8 cA_9 H hK hP hD hS => ?_)
  have hP : va_P (dC, dI) vwP [(h0, .inr (13, [.null, .int 0, .ref q_1, .ref q_3, .ref q_4, .ref q_6, .int 0, .null, .null, .null, .null, .null, .null])), (q_8, .inl (cA_9, 0, .inl (fun _ => 0)))] H := hP
  have hD : va_D A [(h0, .inr (13, [.null, .int 0, .ref q_1, .ref q_3, .ref q_4, .ref q_6, .int 0, .null, .null, .null, .null, .null, .null])), (q_8, .inl (cA_9, 0, .inl (fun _ => 0)))] := hD
  have hK : va_K (dC, dI) vwP [(cA_9, .int)] s := hK
  refine W.widen (k := 5) (n := 0) (Nat.le_of_ble_eq_true rfl) (Nat.le_of_ble_eq_true rfl) ?_
  refine va_put (D := (dC, dI)) (ci := 13) (v := .ref q_8) (ty := .array .int) (C := RX14) (T := TX14) (N := 13) hx hb hts mem_X14_init_0 tyX14 tyX14_ok nmX14 hown hK hP hD hS 0 rfl rfl 7 (by decide) (ow (k := 10) rfl) (fun _ h9 => h9) rfl (by decide +kernel) rfl rfl (Nat.le_of_ble_eq_true rfl) dX14_init_37 (fun H locs hP hD hS => ?_)
  have hP : va_P (dC, dI) vwP [(h0, .inr (13, [.null, .int 0, .ref q_1, .ref q_3, .ref q_4, .ref q_6, .int 0, .ref q_8, .null, .null, .null, .null, .null])), (q_8, .inl (cA_9, 0, .inl (fun _ => 0)))] H := hP
  have hD : va_D A [(h0, .inr (13, [.null, .int 0, .ref q_1, .ref q_3, .ref q_4, .ref q_6, .int 0, .ref q_8, .null, .null, .null, .null, .null])), (q_8, .inl (cA_9, 0, .inl (fun _ => 0)))] := hD
  have hP := hP.sub (ws' := [(h0, .inr (13, [.null, .int 0, .ref q_1, .ref q_3, .ref q_4, .ref q_6, .int 0, .ref q_8, .null, .null, .null, .null, .null]))]) [0] rfl
  have hD := hD.sub (ws' := [(h0, .inr (13, [.null, .int 0, .ref q_1, .ref q_3, .ref q_4, .ref q_6, .int 0, .ref q_8, .null, .null, .null, .null, .null]))]) [0] (by decide) rfl
  have hK := hK.sub (tys' := []) [] rfl
  refine lv_aload_n hx hb dX14_init_40 rfl (lv_at hl 0 rfl) ?_
  refine lv_iconst (v := 0) hx hb dX14_init_41 (by decide) ?_
  refine va_newa (ty := .int) (n := 0) (N' := 0) (a0 := (0, .inl (fun _ => 0))) hx hb (ow (k := 7) rfl) rfl hK hP hD hS hA (fun _ => rfl) (by decide) (by decide) (by decide) (Nat.le_of_ble_eq_true rfl) (Nat.le_of_ble_eq_true rfl) dX14_init_42 (fun q_10 cA_11 H hK hP hD hS => ?_)
  have hP : va_P (dC, dI) vwP [(h0, .inr (13, [.null, .int 0, .ref q_1, .ref q_3, .ref q_4, .ref q_6, .int 0, .ref q_8, .null, .null, .null, .null, .null])), (q_10, .inl (cA_11, 0, .inl (fun _ => 0)))] H := hP
  have hD : va_D A [(h0, .inr (13, [.null, .int 0, .ref q_1, .ref q_3, .ref q_4, .ref q_6, .int 0, .ref q_8, .null, .null, .null, .null, .null])), (q_10, .inl (cA_11, 0, .inl (fun _ => 0)))] := hD
  have hK : va_K (dC, dI) vwP [(cA_11, .int)] s := hK
  refine W.widen (k := 6) (n := 0) (Nat.le_of_ble_eq_true rfl) (Nat.le_of_ble_eq_true rfl) ?_
  refine va_put (D := (dC, dI)) (ci := 13) (v := .ref q_10) (ty := .array .int) (C := RX14) (T := TX14) (N := 13) hx hb hts mem_X14_init_0 tyX14 tyX14_ok nmX14 hown hK hP hD hS 0 rfl rfl 8 (by decide) (ow (k := 11) rfl) (fun _ h9 => h9) rfl (by decide +kernel) rfl rfl (Nat.le_of_ble_eq_true rfl) dX14_init_44 (fun H locs hP hD hS => ?_)
  have hP : va_P (dC, dI) vwP [(h0, .inr (13, [.null, .int 0, .ref q_1, .ref q_3, .ref q_4, .ref q_6, .int 0, .ref q_8, .ref q_10, .null, .null, .null, .null])), (q_10, .inl (cA_11, 0, .inl (fun _ => 0)))] H := hP
  have hD : va_D A [(h0, .inr (13, [.null, .int 0, .ref q_1, .ref q_3, .ref q_4, .ref q_6, .int 0, .ref q_8, .ref q_10, .null, .null, .null, .null])), (q_10, .inl (cA_11, 0, .inl (fun _ => 0)))] := hD
  have hP := hP.sub (ws' := [(h0, .inr (13, [.null, .int 0, .ref q_1, .ref q_3, .ref q_4, .ref q_6, .int 0, .ref q_8, .ref q_10, .null, .null, .null, .null]))]) [0] rfl
  have hD := hD.sub (ws' := [(h0, .inr (13, [.null, .int 0, .ref q_1, .ref q_3, .ref q_4, .ref q_6, .int 0, .ref q_8, .ref q_10, .null, .null, .null, .null]))]) [0] (by decide) rfl
  have hK := hK.sub (tys' := []) [] rfl
  refine lv_aload_n hx hb dX14_init_47 rfl (lv_at hl 0 rfl) ?_
  refine lv_iconst (v := 0) hx hb dX14_init_48 (by decide) ?_
  refine va_newa (ty := .boolean) (n := 0) (N' := 0) (a0 := (0, .inl (fun _ => 0))) hx hb (ow (k := 3) rfl) rfl hK hP hD hS hA (fun _ => rfl) (by decide) (by decide) (by decide) (Nat.le_of_ble_eq_true rfl) (Nat.le_of_ble_eq_true rfl) dX14_init_49 (fun q_12 cA_13 H hK hP hD hS => ?_)
  have hP : va_P (dC, dI) vwP [(h0, .inr (13, [.null, .int 0, .ref q_1, .ref q_3, .ref q_4, .ref q_6, .int 0, .ref q_8, .ref q_10, .null, .null, .null, .null])), (q_12, .inl (cA_13, 0, .inl (fun _ => 0)))] H := hP
  have hD : va_D A [(h0, .inr (13, [.null, .int 0, .ref q_1, .ref q_3, .ref q_4, .ref q_6, .int 0, .ref q_8, .ref q_10, .null, .null, .null, .null])), (q_12, .inl (cA_13, 0, .inl (fun _ => 0)))] := hD
  have hK : va_K (dC, dI) vwP [(cA_13, .boolean)] s := hK
  refine W.widen (k := 7) (n := 0) (Nat.le_of_ble_eq_true rfl) (Nat.le_of_ble_eq_true rfl) ?_
  refine va_put (D := (dC, dI)) (ci := 13) (v := .ref q_12) (ty := .array .boolean) (C := RX14) (T := TX14) (N := 13) hx hb hts mem_X14_init_0 tyX14 tyX14_ok nmX14 hown hK hP hD hS 0 rfl rfl 9 (by decide) (ow (k := 12) rfl) (fun _ h9 => h9) rfl (by decide +kernel) rfl rfl (Nat.le_of_ble_eq_true rfl) dX14_init_51 (fun H locs hP hD hS => ?_)
  have hP : va_P (dC, dI) vwP [(h0, .inr (13, [.null, .int 0, .ref q_1, .ref q_3, .ref q_4, .ref q_6, .int 0, .ref q_8, .ref q_10, .ref q_12, .null, .null, .null])), (q_12, .inl (cA_13, 0, .inl (fun _ => 0)))] H := hP
  have hD : va_D A [(h0, .inr (13, [.null, .int 0, .ref q_1, .ref q_3, .ref q_4, .ref q_6, .int 0, .ref q_8, .ref q_10, .ref q_12, .null, .null, .null])), (q_12, .inl (cA_13, 0, .inl (fun _ => 0)))] := hD
  have hP := hP.sub (ws' := [(h0, .inr (13, [.null, .int 0, .ref q_1, .ref q_3, .ref q_4, .ref q_6, .int 0, .ref q_8, .ref q_10, .ref q_12, .null, .null, .null]))]) [0] rfl
  have hD := hD.sub (ws' := [(h0, .inr (13, [.null, .int 0, .ref q_1, .ref q_3, .ref q_4, .ref q_6, .int 0, .ref q_8, .ref q_10, .ref q_12, .null, .null, .null]))]) [0] (by decide) rfl
  have hK := hK.sub (tys' := []) [] rfl
  refine lv_aload_n hx hb dX14_init_54 rfl (lv_at hl 0 rfl) ?_
  refine lv_iconst (v := 0) hx hb dX14_init_55 (by decide) ?_
  refine vy_anew (t := .boolean) (N' := 0) hx hb hown (ow (k := 5) rfl) hp0 hP hD hS (by decide) (by decide) (by decide) (Nat.le_of_ble_eq_true rfl) (Nat.le_of_ble_eq_true rfl) dX14_init_56 (fun q_14 H hP hS => ?_)
  have hP : va_P (dC, dI) vwP [(h0, .inr (13, [.null, .int 0, .ref q_1, .ref q_3, .ref q_4, .ref q_6, .int 0, .ref q_8, .ref q_10, .ref q_12, .null, .null, .null]))] H := hP
  have hD : va_D A [(h0, .inr (13, [.null, .int 0, .ref q_1, .ref q_3, .ref q_4, .ref q_6, .int 0, .ref q_8, .ref q_10, .ref q_12, .null, .null, .null]))] := hD
  refine W.widen (k := 8) (n := 0) (Nat.le_of_ble_eq_true rfl) (Nat.le_of_ble_eq_true rfl) ?_
  refine va_put (D := (dC, dI)) (ci := 13) (v := .ref q_14) (ty := .array (.array .boolean)) (C := RX14) (T := TX14) (N := 13) hx hb hts mem_X14_init_0 tyX14 tyX14_ok nmX14 hown hK hP hD hS 0 rfl rfl 10 (by decide) (ow (k := 13) rfl) (fun _ h9 => h9) rfl (by decide +kernel) rfl rfl (Nat.le_of_ble_eq_true rfl) dX14_init_59 (fun H locs hP hD hS => ?_)
  have hP : va_P (dC, dI) vwP [(h0, .inr (13, [.null, .int 0, .ref q_1, .ref q_3, .ref q_4, .ref q_6, .int 0, .ref q_8, .ref q_10, .ref q_12, .ref q_14, .null, .null]))] H := hP
  have hD : va_D A [(h0, .inr (13, [.null, .int 0, .ref q_1, .ref q_3, .ref q_4, .ref q_6, .int 0, .ref q_8, .ref q_10, .ref q_12, .ref q_14, .null, .null]))] := hD
  refine lv_aload_n hx hb dX14_init_62 rfl (lv_at hl 0 rfl) ?_
  refine lv_sipush (v := 1002) hx hb dX14_init_63 (by decide) ?_
  refine va_newa (ty := .boolean) (n := 1002) (N' := 1002) (a0 := (1002, .inl (fun _ => 0))) hx hb (ow (k := 3) rfl) rfl hK hP hD hS hA (fun _ => rfl) (by decide) (by decide) (by decide) (Nat.le_of_ble_eq_true rfl) (Nat.le_of_ble_eq_true rfl) dX14_init_66 (fun q_15 cA_16 H hK hP hD hS => ?_)
  have hP : va_P (dC, dI) vwP [(h0, .inr (13, [.null, .int 0, .ref q_1, .ref q_3, .ref q_4, .ref q_6, .int 0, .ref q_8, .ref q_10, .ref q_12, .ref q_14, .null, .null])), (q_15, .inl (cA_16, 1002, .inl (fun _ => 0)))] H := hP
  have hD : va_D A [(h0, .inr (13, [.null, .int 0, .ref q_1, .ref q_3, .ref q_4, .ref q_6, .int 0, .ref q_8, .ref q_10, .ref q_12, .ref q_14, .null, .null])), (q_15, .inl (cA_16, 1002, .inl (fun _ => 0)))] := hD
  have hK : va_K (dC, dI) vwP [(cA_16, .boolean)] s := hK
  refine W.widen (k := 9) (n := 1002) (Nat.le_of_ble_eq_true rfl) (Nat.le_of_ble_eq_true rfl) ?_
  refine va_put (D := (dC, dI)) (ci := 13) (v := .ref q_15) (ty := .array .boolean) (C := RX14) (T := TX14) (N := 13) hx hb hts mem_X14_init_0 tyX14 tyX14_ok nmX14 hown hK hP hD hS 0 rfl rfl 11 (by decide) (ow (k := 14) rfl) (fun _ h9 => h9) rfl (by decide +kernel) rfl rfl (Nat.le_of_ble_eq_true rfl) dX14_init_68 (fun H locs hP hD hS => ?_)
  have hP : va_P (dC, dI) vwP [(h0, .inr (13, [.null, .int 0, .ref q_1, .ref q_3, .ref q_4, .ref q_6, .int 0, .ref q_8, .ref q_10, .ref q_12, .ref q_14, .ref q_15, .null])), (q_15, .inl (cA_16, 1002, .inl (fun _ => 0)))] H := hP
  have hD : va_D A [(h0, .inr (13, [.null, .int 0, .ref q_1, .ref q_3, .ref q_4, .ref q_6, .int 0, .ref q_8, .ref q_10, .ref q_12, .ref q_14, .ref q_15, .null])), (q_15, .inl (cA_16, 1002, .inl (fun _ => 0)))] := hD
  have hP := hP.sub (ws' := [(h0, .inr (13, [.null, .int 0, .ref q_1, .ref q_3, .ref q_4, .ref q_6, .int 0, .ref q_8, .ref q_10, .ref q_12, .ref q_14, .ref q_15, .null]))]) [0] rfl
  have hD := hD.sub (ws' := [(h0, .inr (13, [.null, .int 0, .ref q_1, .ref q_3, .ref q_4, .ref q_6, .int 0, .ref q_8, .ref q_10, .ref q_12, .ref q_14, .ref q_15, .null]))]) [0] (by decide) rfl
  have hK := hK.sub (tys' := []) [] rfl
  refine lv_aload_n hx hb dX14_init_71 rfl (lv_at hl 0 rfl) ?_
  refine lv_sipush (v := 1002) hx hb dX14_init_72 (by decide) ?_
  refine va_newa (ty := .boolean) (n := 1002) (N' := 1002) (a0 := (1002, .inl (fun _ => 0))) hx hb (ow (k := 3) rfl) rfl hK hP hD hS hA (fun _ => rfl) (by decide) (by decide) (by decide) (Nat.le_of_ble_eq_true rfl) (Nat.le_of_ble_eq_true rfl) dX14_init_75 (fun q_17 cA_18 H hK hP hD hS => ?_)
  have hP : va_P (dC, dI) vwP [(h0, .inr (13, [.null, .int 0, .ref q_1, .ref q_3, .ref q_4, .ref q_6, .int 0, .ref q_8, .ref q_10, .ref q_12, .ref q_14, .ref q_15, .null])), (q_17, .inl (cA_18, 1002, .inl (fun _ => 0)))] H := hP
  have hD : va_D A [(h0, .inr (13, [.null, .int 0, .ref q_1, .ref q_3, .ref q_4, .ref q_6, .int 0, .ref q_8, .ref q_10, .ref q_12, .ref q_14, .ref q_15, .null])), (q_17, .inl (cA_18, 1002, .inl (fun _ => 0)))] := hD
  have hK : va_K (dC, dI) vwP [(cA_18, .boolean)] s := hK
  refine W.widen (k := 10) (n := 2004) (Nat.le_of_ble_eq_true rfl) (Nat.le_of_ble_eq_true rfl) ?_
  refine va_putF (D := (dC, dI)) (ci := 13) (v := .ref q_17) (ty := .array .boolean) (C := RX14) (T := TX14) (N := 13) hx hb hts mem_X14_init_0 tyX14 tyX14_ok nmX14 hown hK hP hD hS 0 rfl rfl 12 (by decide) (ow (k := 15) rfl) (fun _ h9 => h9) rfl hin rfl (by decide +kernel) rfl rfl (Nat.le_of_ble_eq_true rfl) dX14_init_77 (fun H locs hP hD hS => ?_)
  have hP : va_P (dC, dI) vwP [(h0, .inr (13, [.null, .int 0, .ref q_1, .ref q_3, .ref q_4, .ref q_6, .int 0, .ref q_8, .ref q_10, .ref q_12, .ref q_14, .ref q_15, .ref q_17])), (q_17, .inl (cA_18, 1002, .inl (fun _ => 0)))] H := hP
  have hD : va_D A [(h0, .inr (13, [.null, .int 0, .ref q_1, .ref q_3, .ref q_4, .ref q_6, .int 0, .ref q_8, .ref q_10, .ref q_12, .ref q_14, .ref q_15, .ref q_17])), (q_17, .inl (cA_18, 1002, .inl (fun _ => 0)))] := hD
  have hP := hP.sub (ws' := [(h0, .inr (13, [.null, .int 0, .ref q_1, .ref q_3, .ref q_4, .ref q_6, .int 0, .ref q_8, .ref q_10, .ref q_12, .ref q_14, .ref q_15, .ref q_17]))]) [0] rfl
  have hD := hD.sub (ws' := [(h0, .inr (13, [.null, .int 0, .ref q_1, .ref q_3, .ref q_4, .ref q_6, .int 0, .ref q_8, .ref q_10, .ref q_12, .ref q_14, .ref q_15, .ref q_17]))]) [0] (by decide) rfl
  have hK := hK.sub (tys' := []) [] rfl
  refine W.widen (k := 10) (n := 2004) (Nat.le_of_ble_eq_true rfl) (Nat.le_of_ble_eq_true rfl) ?_
  exact W.vret hx hb hr (fun t ht hW => ⟨⟨(), rfl, trivial, q_1, q_3, q_4, q_6, q_8, q_10, q_12, q_14, q_15, q_17, by rw [ht]; exact hP, va_K.moved hW.alike hK, hD⟩, hS.F ht⟩) hS.2.2 dX14_init_80
theorem dX19_init_0 : decode cX19_init 0 = .ok (.aload_n 0, 1) := by decide +kernel
theorem dX19_init_1 : decode cX19_init 1 = .ok (.invokespecial 537, 3) := by decide +kernel
theorem dX19_init_4 : decode cX19_init 4 = .ok (.aload_n 0, 1) := by decide +kernel
theorem dX19_init_5 : decode cX19_init 5 = .ok (.new 135, 3) := by decide +kernel
theorem dX19_init_8 : decode cX19_init 8 = .ok (.dup, 1) := by decide +kernel
theorem dX19_init_9 : decode cX19_init 9 = .ok (.invokespecial 540, 3) := by decide +kernel
theorem dX19_init_12 : decode cX19_init 12 = .ok (.putfield 130, 3) := by decide +kernel
theorem dX19_init_15 : decode cX19_init 15 = .ok (.aload_n 0, 1) := by decide +kernel
theorem dX19_init_16 : decode cX19_init 16 = .ok (.new 32, 3) := by decide +kernel
theorem dX19_init_19 : decode cX19_init 19 = .ok (.dup, 1) := by decide +kernel
theorem dX19_init_20 : decode cX19_init 20 = .ok (.invokespecial 541, 3) := by decide +kernel
theorem dX19_init_23 : decode cX19_init 23 = .ok (.putfield 542, 3) := by decide +kernel
theorem dX19_init_26 : decode cX19_init 26 = .ok (.aload_n 0, 1) := by decide +kernel
theorem dX19_init_27 : decode cX19_init 27 = .ok (.new 32, 3) := by decide +kernel
theorem dX19_init_30 : decode cX19_init 30 = .ok (.dup, 1) := by decide +kernel
theorem dX19_init_31 : decode cX19_init 31 = .ok (.invokespecial 541, 3) := by decide +kernel
theorem dX19_init_34 : decode cX19_init 34 = .ok (.putfield 545, 3) := by decide +kernel
theorem dX19_init_37 : decode cX19_init 37 = .ok (.aload_n 0, 1) := by decide +kernel
theorem dX19_init_38 : decode cX19_init 38 = .ok (.iconst 0, 1) := by decide +kernel
theorem dX19_init_39 : decode cX19_init 39 = .ok (.newarray .int, 2) := by decide +kernel
theorem dX19_init_41 : decode cX19_init 41 = .ok (.putfield 92, 3) := by decide +kernel
theorem dX19_init_44 : decode cX19_init 44 = .ok (.aload_n 0, 1) := by decide +kernel
theorem dX19_init_45 : decode cX19_init 45 = .ok (.iconst 0, 1) := by decide +kernel
theorem dX19_init_46 : decode cX19_init 46 = .ok (.newarray .boolean, 2) := by decide +kernel
theorem dX19_init_48 : decode cX19_init 48 = .ok (.putfield 95, 3) := by decide +kernel
theorem dX19_init_51 : decode cX19_init 51 = .ok (.aload_n 0, 1) := by decide +kernel
theorem dX19_init_52 : decode cX19_init 52 = .ok (.iconst 0, 1) := by decide +kernel
theorem dX19_init_53 : decode cX19_init 53 = .ok (.newarray .boolean, 2) := by decide +kernel
theorem dX19_init_55 : decode cX19_init 55 = .ok (.putfield 108, 3) := by decide +kernel
theorem dX19_init_58 : decode cX19_init 58 = .ok (.aload_n 0, 1) := by decide +kernel
theorem dX19_init_59 : decode cX19_init 59 = .ok (.iconst 0, 1) := by decide +kernel
theorem dX19_init_60 : decode cX19_init 60 = .ok (.anewarray 111, 3) := by decide +kernel
theorem dX19_init_63 : decode cX19_init 63 = .ok (.putfield 112, 3) := by decide +kernel
theorem dX19_init_66 : decode cX19_init 66 = .ok (.aload_n 0, 1) := by decide +kernel
theorem dX19_init_67 : decode cX19_init 67 = .ok (.sipush 1002, 3) := by decide +kernel
theorem dX19_init_70 : decode cX19_init 70 = .ok (.newarray .int, 2) := by decide +kernel
theorem dX19_init_72 : decode cX19_init 72 = .ok (.putfield 220, 3) := by decide +kernel
theorem dX19_init_75 : decode cX19_init 75 = .ok (.aload_n 0, 1) := by decide +kernel
theorem dX19_init_76 : decode cX19_init 76 = .ok (.sipush 1002, 3) := by decide +kernel
theorem dX19_init_79 : decode cX19_init 79 = .ok (.newarray .int, 2) := by decide +kernel
theorem dX19_init_81 : decode cX19_init 81 = .ok (.putfield 223, 3) := by decide +kernel
theorem dX19_init_84 : decode cX19_init 84 = .ok (.aload_n 0, 1) := by decide +kernel
theorem dX19_init_85 : decode cX19_init 85 = .ok (.iconst 0, 1) := by decide +kernel
theorem dX19_init_86 : decode cX19_init 86 = .ok (.newarray .boolean, 2) := by decide +kernel
theorem dX19_init_88 : decode cX19_init 88 = .ok (.putfield 256, 3) := by decide +kernel
theorem dX19_init_91 : decode cX19_init 91 = .ok (.aload_n 0, 1) := by decide +kernel
theorem dX19_init_92 : decode cX19_init 92 = .ok (.iconst 0, 1) := by decide +kernel
theorem dX19_init_93 : decode cX19_init 93 = .ok (.newarray .boolean, 2) := by decide +kernel
theorem dX19_init_95 : decode cX19_init 95 = .ok (.putfield 250, 3) := by decide +kernel
theorem dX19_init_98 : decode cX19_init 98 = .ok (.aload_n 0, 1) := by decide +kernel
theorem dX19_init_99 : decode cX19_init 99 = .ok (.sipush 1002, 3) := by decide +kernel
theorem dX19_init_102 : decode cX19_init 102 = .ok (.newarray .boolean, 2) := by decide +kernel
theorem dX19_init_104 : decode cX19_init 104 = .ok (.putfield 284, 3) := by decide +kernel
theorem dX19_init_107 : decode cX19_init 107 = .ok (.aload_n 0, 1) := by decide +kernel
theorem dX19_init_108 : decode cX19_init 108 = .ok (.sipush 1002, 3) := by decide +kernel
theorem dX19_init_111 : decode cX19_init 111 = .ok (.newarray .boolean, 2) := by decide +kernel
theorem dX19_init_113 : decode cX19_init 113 = .ok (.putfield 290, 3) := by decide +kernel
theorem dX19_init_116 : decode cX19_init 116 = .ok (.aload_n 0, 1) := by decide +kernel
theorem dX19_init_117 : decode cX19_init 117 = .ok (.sipush 1002, 3) := by decide +kernel
theorem dX19_init_120 : decode cX19_init 120 = .ok (.newarray .int, 2) := by decide +kernel
theorem dX19_init_122 : decode cX19_init 122 = .ok (.putfield 287, 3) := by decide +kernel
theorem dX19_init_125 : decode cX19_init 125 = .ok (.aload_n 0, 1) := by decide +kernel
theorem dX19_init_126 : decode cX19_init 126 = .ok (.sipush 1002, 3) := by decide +kernel
theorem dX19_init_129 : decode cX19_init 129 = .ok (.newarray .boolean, 2) := by decide +kernel
theorem dX19_init_131 : decode cX19_init 131 = .ok (.putfield 339, 3) := by decide +kernel
theorem dX19_init_134 : decode cX19_init 134 = .ok (.aload_n 0, 1) := by decide +kernel
theorem dX19_init_135 : decode cX19_init 135 = .ok (.iconst 0, 1) := by decide +kernel
theorem dX19_init_136 : decode cX19_init 136 = .ok (.newarray .boolean, 2) := by decide +kernel
theorem dX19_init_138 : decode cX19_init 138 = .ok (.putfield 351, 3) := by decide +kernel
theorem dX19_init_141 : decode cX19_init 141 = .ok (.aload_n 0, 1) := by decide +kernel
theorem dX19_init_142 : decode cX19_init 142 = .ok (.sipush 1002, 3) := by decide +kernel
theorem dX19_init_145 : decode cX19_init 145 = .ok (.newarray .boolean, 2) := by decide +kernel
theorem dX19_init_147 : decode cX19_init 147 = .ok (.putfield 361, 3) := by decide +kernel
theorem dX19_init_150 : decode cX19_init 150 = .ok (.aload_n 0, 1) := by decide +kernel
theorem dX19_init_151 : decode cX19_init 151 = .ok (.sipush 1002, 3) := by decide +kernel
theorem dX19_init_154 : decode cX19_init 154 = .ok (.newarray .int, 2) := by decide +kernel
theorem dX19_init_156 : decode cX19_init 156 = .ok (.putfield 377, 3) := by decide +kernel
theorem dX19_init_159 : decode cX19_init 159 = .ok (.aload_n 0, 1) := by decide +kernel
theorem dX19_init_160 : decode cX19_init 160 = .ok (.sipush 1003, 3) := by decide +kernel
theorem dX19_init_163 : decode cX19_init 163 = .ok (.newarray .boolean, 2) := by decide +kernel
theorem dX19_init_165 : decode cX19_init 165 = .ok (.putfield 385, 3) := by decide +kernel
theorem dX19_init_168 : decode cX19_init 168 = .ok (.aload_n 0, 1) := by decide +kernel
theorem dX19_init_169 : decode cX19_init 169 = .ok (.bipush 64, 2) := by decide +kernel
theorem dX19_init_171 : decode cX19_init 171 = .ok (.newarray .int, 2) := by decide +kernel
theorem dX19_init_173 : decode cX19_init 173 = .ok (.putfield 407, 3) := by decide +kernel
theorem dX19_init_176 : decode cX19_init 176 = .ok (.aload_n 0, 1) := by decide +kernel
theorem dX19_init_177 : decode cX19_init 177 = .ok (.bipush 64, 2) := by decide +kernel
theorem dX19_init_179 : decode cX19_init 179 = .ok (.newarray .int, 2) := by decide +kernel
theorem dX19_init_181 : decode cX19_init 181 = .ok (.putfield 416, 3) := by decide +kernel
theorem dX19_init_184 : decode cX19_init 184 = .ok (.aload_n 0, 1) := by decide +kernel
theorem dX19_init_185 : decode cX19_init 185 = .ok (.bipush 64, 2) := by decide +kernel
theorem dX19_init_187 : decode cX19_init 187 = .ok (.newarray .boolean, 2) := by decide +kernel
theorem dX19_init_189 : decode cX19_init 189 = .ok (.putfield 419, 3) := by decide +kernel
theorem dX19_init_192 : decode cX19_init 192 = .ok (.aload_n 0, 1) := by decide +kernel
theorem dX19_init_193 : decode cX19_init 193 = .ok (.sipush 1002, 3) := by decide +kernel
theorem dX19_init_196 : decode cX19_init 196 = .ok (.newarray .int, 2) := by decide +kernel
theorem dX19_init_198 : decode cX19_init 198 = .ok (.putfield 454, 3) := by decide +kernel
theorem dX19_init_201 : decode cX19_init 201 = .ok (.aload_n 0, 1) := by decide +kernel
theorem dX19_init_202 : decode cX19_init 202 = .ok (.sipush 512, 3) := by decide +kernel
theorem dX19_init_205 : decode cX19_init 205 = .ok (.newarray .int, 2) := by decide +kernel
theorem dX19_init_207 : decode cX19_init 207 = .ok (.putfield 486, 3) := by decide +kernel
theorem dX19_init_210 : decode cX19_init 210 = .ok (.aload_n 0, 1) := by decide +kernel
theorem dX19_init_211 : decode cX19_init 211 = .ok (.bipush 64, 2) := by decide +kernel
theorem dX19_init_213 : decode cX19_init 213 = .ok (.newarray .int, 2) := by decide +kernel
theorem dX19_init_215 : decode cX19_init 215 = .ok (.putfield 457, 3) := by decide +kernel
theorem dX19_init_218 : decode cX19_init 218 = .ok (.aload_n 0, 1) := by decide +kernel
theorem dX19_init_219 : decode cX19_init 219 = .ok (.iconst (-1), 1) := by decide +kernel
theorem dX19_init_220 : decode cX19_init 220 = .ok (.putfield 548, 3) := by decide +kernel
theorem dX19_init_223 : decode cX19_init 223 = .ok (.aload_n 0, 1) := by decide +kernel
theorem dX19_init_224 : decode cX19_init 224 = .ok (.new 5, 3) := by decide +kernel
theorem dX19_init_227 : decode cX19_init 227 = .ok (.dup, 1) := by decide +kernel
theorem dX19_init_228 : decode cX19_init 228 = .ok (.invokespecial 7, 3) := by decide +kernel
theorem dX19_init_231 : decode cX19_init 231 = .ok (.putfield 489, 3) := by decide +kernel
theorem dX19_init_234 : decode cX19_init 234 = .ok (.aload_n 0, 1) := by decide +kernel
theorem dX19_init_235 : decode cX19_init 235 = .ok (.sipush 8192, 3) := by decide +kernel
theorem dX19_init_238 : decode cX19_init 238 = .ok (.newarray .byte, 2) := by decide +kernel
theorem dX19_init_240 : decode cX19_init 240 = .ok (.putfield 551, 3) := by decide +kernel
theorem dX19_init_243 : decode cX19_init 243 = .ok (.aload_n 0, 1) := by decide +kernel
theorem dX19_init_244 : decode cX19_init 244 = .ok (.iconst (-1), 1) := by decide +kernel
theorem dX19_init_245 : decode cX19_init 245 = .ok (.putfield 555, 3) := by decide +kernel
theorem dX19_init_248 : decode cX19_init 248 = .ok (.aload_n 0, 1) := by decide +kernel
theorem dX19_init_249 : decode cX19_init 249 = .ok (.bipush 64, 2) := by decide +kernel
theorem dX19_init_251 : decode cX19_init 251 = .ok (.newarray .byte, 2) := by decide +kernel
theorem dX19_init_253 : decode cX19_init 253 = .ok (.putfield 558, 3) := by decide +kernel
theorem dX19_init_256 : decode cX19_init 256 = .ok (.aload_n 0, 1) := by decide +kernel
theorem dX19_init_257 : decode cX19_init 257 = .ok (.iconst 0, 1) := by decide +kernel
theorem dX19_init_258 : decode cX19_init 258 = .ok (.newarray .int, 2) := by decide +kernel
theorem dX19_init_260 : decode cX19_init 260 = .ok (.putfield 483, 3) := by decide +kernel
theorem dX19_init_263 : decode cX19_init 263 = .ok (.return_, 1) := by decide +kernel
def o_X19_init : List Cond := [.methodLink RX19 537 objectInit, .instanceMethod objectInit, .code objectInit ⟨#[0xb1]⟩ 1 none, .classLink RX19 135 RX14, .instantiable RX14 13, .initialized RX14, .instanceMethod yX14_init, .fieldLink RX19 130 "SsaForgeModel" "flow" "LSsaForgeModel$Flow;", .classLink RX19 32 RX13, .instantiable RX13 7, .initialized RX13, .instanceMethod yX13_init, .fieldLink RX19 542 "SsaForgeModel" "code" "LSsaForgeModel$Code;", .fieldLink RX19 545 "SsaForgeModel" "spare" "LSsaForgeModel$Code;", .arrayClass .int, .fieldLink RX19 92 "SsaForgeModel" "numbers" "[I", .arrayClass .boolean, .fieldLink RX19 95 "SsaForgeModel" "flags" "[Z", .fieldLink RX19 108 "SsaForgeModel" "sets" "[Z", .classLink RX19 111 "[I", .fieldLink RX19 112 "SsaForgeModel" "latest" "[[I", .fieldLink RX19 220 "SsaForgeModel" "state" "[I", .fieldLink RX19 223 "SsaForgeModel" "number" "[I", .fieldLink RX19 256 "SsaForgeModel" "gone" "[Z", .fieldLink RX19 250 "SsaForgeModel" "open" "[Z", .fieldLink RX19 284 "SsaForgeModel" "replaced" "[Z", .fieldLink RX19 290 "SsaForgeModel" "byReg" "[Z", .fieldLink RX19 287 "SsaForgeModel" "by" "[I", .fieldLink RX19 339 "SsaForgeModel" "needed" "[Z", .fieldLink RX19 351 "SsaForgeModel" "loop" "[Z", .fieldLink RX19 361 "SsaForgeModel" "inside" "[Z", .fieldLink RX19 377 "SsaForgeModel" "becomes" "[I", .fieldLink RX19 385 "SsaForgeModel" "taken" "[Z", .fieldLink RX19 407 "SsaForgeModel" "movesTo" "[I", .fieldLink RX19 416 "SsaForgeModel" "movesOf" "[I", .fieldLink RX19 419 "SsaForgeModel" "movesReg" "[Z", .fieldLink RX19 454 "SsaForgeModel" "registers" "[I", .fieldLink RX19 486 "SsaForgeModel" "shows" "[I", .fieldLink RX19 457 "SsaForgeModel" "atOnce" "[I", .fieldLink RX19 548 "SsaForgeModel" "ended" "I", .classLink RX19 5 RJ4, .instantiable RJ4 4, .initialized RJ4, .methodLink RX19 7 yJ4_init_da8c8, .instanceMethod yJ4_init_da8c8, .fieldLink RX19 489 "SsaForgeModel" "words" "Ljava/lang/StringBuilder;", .arrayClass .byte, .fieldLink RX19 551 "SsaForgeModel" "tape" "[B", .fieldLink RX19 555 "SsaForgeModel" "form" "I", .fieldLink RX19 558 "SsaForgeModel" "result" "[B", .fieldLink RX19 483 "SsaForgeModel" "input" "[I"]
def v_X19_init : List Cond := .code yX19_init cX19_init 1 none :: (o_X19_init ++ (wsX140 ++ (v_X14_init ++ (wsX190 ++ (wsX130 ++ (v_X13_init ++ (wsJ40 ++ (v_J4_init ++ []))))))))
theorem mow_X19_init : ∀ w ∈ o_X19_init, w ∈ v_X19_init := fun _ h => List.mem_cons_of_mem _ (List.mem_append_left _ h)
theorem mem_X19_init_0 : ∀ w ∈ wsX140, w ∈ v_X19_init := fun _ h => List.mem_cons_of_mem _ (List.mem_append_right _ (List.mem_append_left _ h))
theorem mem_X19_init_1 : ∀ w ∈ v_X14_init, w ∈ v_X19_init := fun _ h => List.mem_cons_of_mem _ (List.mem_append_right _ (List.mem_append_right _ (List.mem_append_left _ h)))
theorem mem_X19_init_2 : ∀ w ∈ wsX190, w ∈ v_X19_init := fun _ h => List.mem_cons_of_mem _ (List.mem_append_right _ (List.mem_append_right _ (List.mem_append_right _ (List.mem_append_left _ h))))
theorem mem_X19_init_3 : ∀ w ∈ wsX130, w ∈ v_X19_init := fun _ h => List.mem_cons_of_mem _ (List.mem_append_right _ (List.mem_append_right _ (List.mem_append_right _ (List.mem_append_right _ (List.mem_append_left _ h)))))
theorem mem_X19_init_4 : ∀ w ∈ v_X13_init, w ∈ v_X19_init := fun _ h => List.mem_cons_of_mem _ (List.mem_append_right _ (List.mem_append_right _ (List.mem_append_right _ (List.mem_append_right _ (List.mem_append_right _ (List.mem_append_left _ h))))))
theorem mem_X19_init_5 : ∀ w ∈ wsJ40, w ∈ v_X19_init := fun _ h => List.mem_cons_of_mem _ (List.mem_append_right _ (List.mem_append_right _ (List.mem_append_right _ (List.mem_append_right _ (List.mem_append_right _ (List.mem_append_right _ (List.mem_append_left _ h)))))))
theorem mem_X19_init_6 : ∀ w ∈ v_J4_init, w ∈ v_X19_init := fun _ h => List.mem_cons_of_mem _ (List.mem_append_right _ (List.mem_append_right _ (List.mem_append_right _ (List.mem_append_right _ (List.mem_append_right _ (List.mem_append_right _ (List.mem_append_right _ (List.mem_append_left _ h))))))))
set_option maxRecDepth 20000 in
theorem gw_X19_init : v_X19_init.all goodWord = true := by decide +kernel
set_option maxHeartbeats 4000000 in
set_option maxRecDepth 100000 in
theorem c_X19_init (l : Launch) (dC : Nat → ClassId) (dI : Nat → Nat → Nat) (h0 : Nat) (sz : Nat) (sx_ed : Nat) : Met l yX19_init v_X19_init ({ frames := 5, cells := 48, slots := 21120, locals := 92 }) (va_Pc [.ref h0] (fun U => U.heap.size = sz ∧ va_P (dC, dI) vwP [(h0, .inr (16, [.null, .null, .null, .null, .null, .null, .null, .null, .null, .null, .null, .int 0, .null, .null, .null, .null, .null, .null, .null, .null, .null, .null, .null, .int 0, .null, .null, .null, .int 0, .int 0, .int 0, .int 0, .int 0, .null, .int 0, .null, .int 0, .int 0, .int 0, .int 0, .null, .null]))] U.heap ∧ va_K (dC, dI) vwP [] U ∧ va_D (fun _ => True) [(h0, .inr (16, [.null, .null, .null, .null, .null, .null, .null, .null, .null, .null, .null, .int 0, .null, .null, .null, .null, .null, .null, .null, .null, .null, .null, .null, .int 0, .null, .null, .null, .int 0, .int 0, .int 0, .int 0, .int 0, .null, .int 0, .null, .int 0, .int 0, .int 0, .int 0, .null, .null]))] ∧ va_Nw (.methodLinkNest RX19 540 yX14_init "SsaForgeModel") U ∧ va_Nw (.methodLinkNest RX19 541 yX13_init "SsaForgeModel") U ∧ vy_AO .boolean U ∧ va_Z "java/util/ArrayList" "DEFAULTCAPACITY_EMPTY_ELEMENTDATA" "[Ljava/lang/Object;" (.ref sx_ed) (va_A [(h0, .inr (16, [.null, .null, .null, .null, .null, .null, .null, .null, .null, .null, .null, .int 0, .null, .null, .null, .null, .null, .null, .null, .null, .null, .null, .null, .int 0, .null, .null, .null, .int 0, .int 0, .int 0, .int 0, .int 0, .null, .int 0, .null, .int 0, .int 0, .int 0, .int 0, .null, .null]))] sz) U U.heap ∧ vy_AO .int U ∧ va_Z "java/lang/String" "COMPACT_STRINGS" "Z" (.int 1) (va_A [(h0, .inr (16, [.null, .null, .null, .null, .null, .null, .null, .null, .null, .null, .null, .int 0, .null, .null, .null, .null, .null, .null, .null, .null, .null, .null, .null, .int 0, .null, .null, .null, .int 0, .int 0, .int 0, .int 0, .int 0, .null, .int 0, .null, .int 0, .int 0, .int 0, .int 0, .null, .null]))] sz) U U.heap)) (va_Qv (fun _ : Unit => True) (fun (_ : Unit) (t : State) => ∃ (q_1 : Nat) (q_12 : Nat) (q_17 : Nat) (q_22 : Nat) (q_24 : Nat) (q_26 : Nat) (q_28 : Nat) (q_29 : Nat) (q_31 : Nat) (q_33 : Nat) (q_35 : Nat) (q_37 : Nat) (q_39 : Nat) (q_41 : Nat) (q_43 : Nat) (q_45 : Nat) (q_47 : Nat) (q_49 : Nat) (q_51 : Nat) (q_53 : Nat) (q_55 : Nat) (q_57 : Nat) (q_59 : Nat) (q_61 : Nat) (q_63 : Nat) (q_65 : Nat) (q_68 : Nat) (q_70 : Nat) (q_72 : Nat) (q_18 : Nat) (q_19 : Nat) (q_20 : Nat) (q_21 : Nat) (cA_69 : ClassId), va_P (dC, dI) vwP [(h0, .inr (16, [.ref q_1, .ref q_12, .ref q_17, .ref q_22, .ref q_24, .ref q_26, .ref q_28, .ref q_29, .ref q_31, .ref q_33, .ref q_35, .int 0, .ref q_37, .ref q_39, .ref q_41, .ref q_43, .ref q_45, .ref q_47, .ref q_49, .ref q_51, .ref q_53, .ref q_55, .ref q_57, .int 0, .ref q_59, .ref q_61, .ref q_63, .int (-1), .int 0, .int 0, .int 0, .int 0, .ref q_65, .int 0, .ref q_68, .int 0, .int (-1), .int 0, .int 0, .ref q_70, .ref q_72])), (q_17, .inr (12, [.ref q_18, .ref q_19, .ref q_20, .int 0, .int 0, .ref q_21, .int 0])), (q_21, .inr (18, [.int 0, .ref sx_ed, .int 0])), (q_68, .inl (cA_69, 8192, .inl (fun _ => 0)))] t.heap ∧ va_K (dC, dI) vwP [(cA_69, .byte)] t ∧ va_D (va_A [(h0, .inr (16, [.null, .null, .null, .null, .null, .null, .null, .null, .null, .null, .null, .int 0, .null, .null, .null, .null, .null, .null, .null, .null, .null, .null, .null, .int 0, .null, .null, .null, .int 0, .int 0, .int 0, .int 0, .int 0, .null, .int 0, .null, .int 0, .int 0, .int 0, .int 0, .null, .null]))] sz) [(h0, .inr (16, [.ref q_1, .ref q_12, .ref q_17, .ref q_22, .ref q_24, .ref q_26, .ref q_28, .ref q_29, .ref q_31, .ref q_33, .ref q_35, .int 0, .ref q_37, .ref q_39, .ref q_41, .ref q_43, .ref q_45, .ref q_47, .ref q_49, .ref q_51, .ref q_53, .ref q_55, .ref q_57, .int 0, .ref q_59, .ref q_61, .ref q_63, .int (-1), .int 0, .int 0, .int 0, .int 0, .ref q_65, .int 0, .ref q_68, .int 0, .int (-1), .int 0, .int 0, .ref q_70, .ref q_72])), (q_17, .inr (12, [.ref q_18, .ref q_19, .ref q_20, .int 0, .int 0, .ref q_21, .int 0])), (q_21, .inr (18, [.int 0, .ref sx_ed, .int 0])), (q_68, .inl (cA_69, 8192, .inl (fun _ => 0)))]) (va_A [(h0, .inr (16, [.null, .null, .null, .null, .null, .null, .null, .null, .null, .null, .null, .int 0, .null, .null, .null, .null, .null, .null, .null, .null, .null, .null, .null, .int 0, .null, .null, .null, .int 0, .int 0, .int 0, .int 0, .int 0, .null, .int 0, .null, .int 0, .int 0, .int 0, .int 0, .null, .null]))] sz)) 48 21120 (va_A [(h0, .inr (16, [.null, .null, .null, .null, .null, .null, .null, .null, .null, .null, .null, .int 0, .null, .null, .null, .null, .null, .null, .null, .null, .null, .null, .null, .int 0, .null, .null, .null, .int 0, .int 0, .int 0, .int 0, .int 0, .null, .int 0, .null, .int 0, .int 0, .int 0, .int 0, .null, .null]))] sz) := by
  refine Met.ofW (cc := cX19_init) (maxL := 1) (ret := none) (by decide) rfl ?_
  intro p e s m args below meth c s₁ B hml hv
  obtain ⟨rfl, hsz, hP, hK, hD0, hp0, hp1, hp2, hp3, hp4, hp5⟩ := hv
  have hx := B.exec
  have hb := B.bytes
  have hr := B.returns
  have hts := atoms_spec (ws := v_X19_init) B.pre
  have hown : s.vm.findClass RX19 = some m.cls := findClass_of_methodNamed B.named
  have hlocks := B.notSynchronized
  have ow : ∀ {k : Nat} {w : Cond}, o_X19_init[k]? = some w → w.before ([.ref h0] : List Value).toArray s = true := fun h => hts _ (mow_X19_init _ (List.mem_of_getElem? h))
  have hin : meth.name = "<init>" := (name_of_methodNamed B.named B.method).1
  subst hsz
  have hD := hD0.self (sz := s.heap.size)
  generalize hAe : va_A [(h0, .inr (16, [.null, .null, .null, .null, .null, .null, .null, .null, .null, .null, .null, .int 0, .null, .null, .null, .null, .null, .null, .null, .null, .null, .null, .null, .int 0, .null, .null, .null, .int 0, .int 0, .int 0, .int 0, .int 0, .null, .int 0, .null, .int 0, .int 0, .int 0, .int 0, .null, .null]))] s.heap.size = A at hD hp3 hp5 ⊢
  have hA : ∀ q : Nat, s.heap.size ≤ q → A q := fun q h => by rw [← hAe]; exact Or.inr h
  have hS : va_S A s.heap s.heap [] := va_S.rf
  have hP : va_P (dC, dI) vwP [(h0, .inr (16, [.null, .null, .null, .null, .null, .null, .null, .null, .null, .null, .null, .int 0, .null, .null, .null, .null, .null, .null, .null, .null, .null, .null, .null, .int 0, .null, .null, .null, .int 0, .int 0, .int 0, .int 0, .int 0, .null, .int 0, .null, .int 0, .int 0, .int 0, .int 0, .null, .null]))] s.heap := hP
  have hl := lv_entry ([.ref h0]) (n := 1) (Nat.le_of_ble_eq_true rfl)
  rw [lg_entry_eq]
  generalize (lg_sl ([.ref h0]) ++ List.replicate (1 - (lg_sl ([.ref h0])).length) Slot.unset).toArray = ls at hl ⊢
  have hl : lv_has ls 1 [(0, .ref h0)] := hl
  obtain ⟨H, hH⟩ : ∃ H, H = s.heap := ⟨_, rfl⟩
  rw [← hH] at hP
  have hS : va_S A s.heap H [] := by rw [hH]; exact hS
  rw [← hH]
  refine lv_aload_n hx hb dX19_init_0 rfl (lv_at hl 0 rfl) ?_
  refine W.objInit hx hb hown (ow (k := 0) rfl) (ow (k := 1) rfl) (ow (k := 2) rfl) rfl (by rw [hml]; exact hl.1) rfl dX19_init_1 (Nat.le_of_ble_eq_true rfl) (Nat.le_of_ble_eq_true rfl) ?_
  refine W.eq (g2 := F0 m 4 ls []) rfl ?_
  refine lv_aload_n hx hb dX19_init_4 rfl (lv_at hl 0 rfl) ?_
  refine va_new (ci := 13) (fs := [.null, .int 0, .null, .null, .null, .null, .int 0, .null, .null, .null, .null, .null, .null]) (C := RX14) (T := TX14) (N := 13) hx hb hts mem_X19_init_0 tyX14 tyX14_ok hown (ow (k := 3) rfl) (ow (k := 4) rfl) (ow (k := 5) rfl) hK hP hD hS hA rfl (df_X14) (Nat.le_of_ble_eq_true rfl) (Nat.le_of_ble_eq_true rfl) dX19_init_5 (fun q_1 H hP hD hS => ?_)
  have hP : va_P (dC, dI) vwP [(h0, .inr (16, [.null, .null, .null, .null, .null, .null, .null, .null, .null, .null, .null, .int 0, .null, .null, .null, .null, .null, .null, .null, .null, .null, .null, .null, .int 0, .null, .null, .null, .int 0, .int 0, .int 0, .int 0, .int 0, .null, .int 0, .null, .int 0, .int 0, .int 0, .int 0, .null, .null])), (q_1, .inr (13, [.null, .int 0, .null, .null, .null, .null, .int 0, .null, .null, .null, .null, .null, .null]))] H := hP
  have hD : va_D A [(h0, .inr (16, [.null, .null, .null, .null, .null, .null, .null, .null, .null, .null, .null, .int 0, .null, .null, .null, .null, .null, .null, .null, .null, .null, .null, .null, .int 0, .null, .null, .null, .int 0, .int 0, .int 0, .int 0, .int 0, .null, .int 0, .null, .int 0, .int 0, .int 0, .int 0, .null, .null])), (q_1, .inr (13, [.null, .int 0, .null, .null, .null, .null, .int 0, .null, .null, .null, .null, .null, .null]))] := hD
  refine W.widen (k := 1) (n := 13) (Nat.le_of_ble_eq_true rfl) (Nat.le_of_ble_eq_true rfl) ?_
  refine lv_dup hx hb dX19_init_8 rfl ?_
  have hPc := hP.sub (ws' := [(q_1, .inr (13, [.null, .int 0, .null, .null, .null, .null, .int 0, .null, .null, .null, .null, .null, .null]))]) [1] rfl
  have hDc := hD.sub (ws' := [(q_1, .inr (13, [.null, .int 0, .null, .null, .null, .null, .int 0, .null, .null, .null, .null, .null, .null]))]) [1] (by decide) rfl
  have hKc := hK.sub (tys' := []) [] rfl
  have hFc := va_free (wc := [(q_1, .inr (13, [.null, .int 0, .null, .null, .null, .null, .int 0, .null, .null, .null, .null, .null, .null]))]) hD hS hA [1] rfl
  refine va_callv (va_runIN (As := []) (rest := [.ref q_1, .ref h0]) ⟨hx, hb, hml, hown, hts⟩ (c_X14_init l dC dI q_1 H.size) ⟨va_cnB 0 hts (goodIn_sub mem_X19_init_1 gw_X14_init) rfl rfl rfl hp0 (ow (k := 5) rfl) (by decide +kernel) ⟨(Nat.le_of_ble_eq_true rfl), (Nat.le_of_ble_eq_true rfl)⟩, rfl, (ow (k := 6) rfl)⟩ ⟨fun a U g mk q => by obtain ⟨q0, q1, qP, qK, qD, e0⟩ := q; exact ⟨q0, q1, qP, va_K.moved (u := U) (U := U.calling g mk a) (Vm.Alike.refl U.vm) qK, qD, vy_AO.moved (u := U) (U := U.calling g mk a) (Vm.Alike.refl U.vm) e0⟩, fun U hU hW => ⟨rfl, by rw [hU], by rw [hU]; exact hPc, va_K.moved hW.alike hKc, hDc.weaken (fun _ _ _ _ => trivial), vy_AO.moved hW.alike hp2⟩⟩ rfl rfl hl.1 rfl (lv_room (Nat.le_of_ble_eq_true rfl)) dX19_init_9 ⟨(Nat.le_of_ble_eq_true rfl), (Nat.le_of_ble_eq_true rfl)⟩) hS (fun q _ h => hFc q h) hFc (fun  u t H1 locs ht hvm hw hB hz1 hk1 hS => ?_)
  obtain ⟨q_2, q_3, q_4, q_5, q_6, q_7, q_8, q_9, q_10, q_11, hP1, hK1, hD1⟩ := hB
  rw [ht] at hP1
  have hK1 := va_K.moved hvm.symm hK1
  obtain ⟨hP, hD⟩ := va_join (wr := [(h0, .inr (16, [.null, .null, .null, .null, .null, .null, .null, .null, .null, .null, .null, .int 0, .null, .null, .null, .null, .null, .null, .null, .null, .null, .null, .null, .int 0, .null, .null, .null, .int 0, .int 0, .int 0, .int 0, .int 0, .null, .int 0, .null, .int 0, .int 0, .int 0, .int 0, .null, .null]))]) (w1 := [(q_1, .inr (13, [.null, .int 0, .ref q_2, .ref q_3, .ref q_4, .ref q_5, .int 0, .ref q_6, .ref q_7, .ref q_8, .ref q_9, .ref q_10, .ref q_11]))]) hP hD [1] [0] rfl rfl (by decide) (by decide) hk1 hFc hP1 hD1
  have hK := (hK.sub (tys' := []) [] rfl).app hK1
  generalize H1 = H at hP hS ⊢
  have hP : va_P (dC, dI) vwP [(h0, .inr (16, [.null, .null, .null, .null, .null, .null, .null, .null, .null, .null, .null, .int 0, .null, .null, .null, .null, .null, .null, .null, .null, .null, .null, .null, .int 0, .null, .null, .null, .int 0, .int 0, .int 0, .int 0, .int 0, .null, .int 0, .null, .int 0, .int 0, .int 0, .int 0, .null, .null])), (q_1, .inr (13, [.null, .int 0, .ref q_2, .ref q_3, .ref q_4, .ref q_5, .int 0, .ref q_6, .ref q_7, .ref q_8, .ref q_9, .ref q_10, .ref q_11]))] H := hP
  have hD : va_D A [(h0, .inr (16, [.null, .null, .null, .null, .null, .null, .null, .null, .null, .null, .null, .int 0, .null, .null, .null, .null, .null, .null, .null, .null, .null, .null, .null, .int 0, .null, .null, .null, .int 0, .int 0, .int 0, .int 0, .int 0, .null, .int 0, .null, .int 0, .int 0, .int 0, .int 0, .null, .null])), (q_1, .inr (13, [.null, .int 0, .ref q_2, .ref q_3, .ref q_4, .ref q_5, .int 0, .ref q_6, .ref q_7, .ref q_8, .ref q_9, .ref q_10, .ref q_11]))] := hD
  have hK : va_K (dC, dI) vwP [] s := hK
  refine W.widen (k := 11) (n := 2017) (Nat.le_of_ble_eq_true rfl) (Nat.le_of_ble_eq_true rfl) ?_
  refine va_putF (D := (dC, dI)) (ci := 16) (v := .ref q_1) (ty := .object "SsaForgeModel$Flow") (C := RX19) (T := TX19) (N := 41) hx hb hts mem_X19_init_2 tyX19 tyX19_ok nmX19 hown hK hP hD hS 0 rfl rfl 0 (by decide) (ow (k := 7) rfl) (fun _ h9 => h9) rfl hin rfl (by decide +kernel) rfl rfl (Nat.le_of_ble_eq_true rfl) dX19_init_12 (fun H locs hP hD hS => ?_)
  have hP : va_P (dC, dI) vwP [(h0, .inr (16, [.ref q_1, .null, .null, .null, .null, .null, .null, .null, .null, .null, .null, .int 0, .null, .null, .null, .null, .null, .null, .null, .null, .null, .null, .null, .int 0, .null, .null, .null, .int 0, .int 0, .int 0, .int 0, .int 0, .null, .int 0, .null, .int 0, .int 0, .int 0, .int 0, .null, .null])), (q_1, .inr (13, [.null, .int 0, .ref q_2, .ref q_3, .ref q_4, .ref q_5, .int 0, .ref q_6, .ref q_7, .ref q_8, .ref q_9, .ref q_10, .ref q_11]))] H := hP
  have hD : va_D A [(h0, .inr (16, [.ref q_1, .null, .null, .null, .null, .null, .null, .null, .null, .null, .null, .int 0, .null, .null, .null, .null, .null, .null, .null, .null, .null, .null, .null, .int 0, .null, .null, .null, .int 0, .int 0, .int 0, .int 0, .int 0, .null, .int 0, .null, .int 0, .int 0, .int 0, .int 0, .null, .null])), (q_1, .inr (13, [.null, .int 0, .ref q_2, .ref q_3, .ref q_4, .ref q_5, .int 0, .ref q_6, .ref q_7, .ref q_8, .ref q_9, .ref q_10, .ref q_11]))] := hD
  have hP := hP.sub (ws' := [(h0, .inr (16, [.ref q_1, .null, .null, .null, .null, .null, .null, .null, .null, .null, .null, .int 0, .null, .null, .null, .null, .null, .null, .null, .null, .null, .null, .null, .int 0, .null, .null, .null, .int 0, .int 0, .int 0, .int 0, .int 0, .null, .int 0, .null, .int 0, .int 0, .int 0, .int 0, .null, .null]))]) [0] rfl
  have hD := hD.sub (ws' := [(h0, .inr (16, [.ref q_1, .null, .null, .null, .null, .null, .null, .null, .null, .null, .null, .int 0, .null, .null, .null, .null, .null, .null, .null, .null, .null, .null, .null, .int 0, .null, .null, .null, .int 0, .int 0, .int 0, .int 0, .int 0, .null, .int 0, .null, .int 0, .int 0, .int 0, .int 0, .null, .null]))]) [0] (by decide) rfl
  refine lv_aload_n hx hb dX19_init_15 rfl (lv_at hl 0 rfl) ?_
  refine va_new (ci := 12) (fs := [.null, .null, .null, .int 0, .int 0, .null, .int 0]) (C := RX13) (T := TX13) (N := 7) hx hb hts mem_X19_init_3 tyX13 tyX13_ok hown (ow (k := 8) rfl) (ow (k := 9) rfl) (ow (k := 10) rfl) hK hP hD hS hA rfl (df_X13) (Nat.le_of_ble_eq_true rfl) (Nat.le_of_ble_eq_true rfl) dX19_init_16 (fun q_12 H hP hD hS => ?_)
  have hP : va_P (dC, dI) vwP [(h0, .inr (16, [.ref q_1, .null, .null, .null, .null, .null, .null, .null, .null, .null, .null, .int 0, .null, .null, .null, .null, .null, .null, .null, .null, .null, .null, .null, .int 0, .null, .null, .null, .int 0, .int 0, .int 0, .int 0, .int 0, .null, .int 0, .null, .int 0, .int 0, .int 0, .int 0, .null, .null])), (q_12, .inr (12, [.null, .null, .null, .int 0, .int 0, .null, .int 0]))] H := hP
  have hD : va_D A [(h0, .inr (16, [.ref q_1, .null, .null, .null, .null, .null, .null, .null, .null, .null, .null, .int 0, .null, .null, .null, .null, .null, .null, .null, .null, .null, .null, .null, .int 0, .null, .null, .null, .int 0, .int 0, .int 0, .int 0, .int 0, .null, .int 0, .null, .int 0, .int 0, .int 0, .int 0, .null, .null])), (q_12, .inr (12, [.null, .null, .null, .int 0, .int 0, .null, .int 0]))] := hD
  refine W.widen (k := 12) (n := 2024) (Nat.le_of_ble_eq_true rfl) (Nat.le_of_ble_eq_true rfl) ?_
  refine lv_dup hx hb dX19_init_19 rfl ?_
  have hPc := hP.sub (ws' := [(q_12, .inr (12, [.null, .null, .null, .int 0, .int 0, .null, .int 0]))]) [1] rfl
  have hDc := hD.sub (ws' := [(q_12, .inr (12, [.null, .null, .null, .int 0, .int 0, .null, .int 0]))]) [1] (by decide) rfl
  have hKc := hK.sub (tys' := []) [] rfl
  have hFc := va_free (wc := [(q_12, .inr (12, [.null, .null, .null, .int 0, .int 0, .null, .int 0]))]) hD hS hA [1] rfl
  refine va_callv (va_runIN (As := []) (rest := [.ref q_12, .ref h0]) ⟨hx, hb, hml, hown, hts⟩ (c_X13_init l dC dI q_12 H.size sx_ed) ⟨va_cnB 0 hts (goodIn_sub mem_X19_init_4 gw_X13_init) rfl rfl rfl hp1 (ow (k := 10) rfl) (by decide +kernel) ⟨(Nat.le_of_ble_eq_true rfl), (Nat.le_of_ble_eq_true rfl)⟩, rfl, (ow (k := 11) rfl)⟩ ⟨fun a U g mk q => by obtain ⟨q0, q1, qP, qK, qD, e0⟩ := q; exact ⟨q0, q1, qP, va_K.moved (u := U) (U := U.calling g mk a) (Vm.Alike.refl U.vm) qK, qD, va_Z.moved (u := U) (U := U.calling g mk a) (Vm.Alike.refl U.vm) e0⟩, fun U hU hW => ⟨rfl, by rw [hU], by rw [hU]; exact hPc, va_K.moved hW.alike hKc, hDc.weaken (fun _ _ _ _ => trivial), by rw [hU]; exact va_Z.narrow (va_Z.moved hW.alike (va_Z.kept hp3 hS.2.1)) hFc⟩⟩ rfl rfl hl.1 rfl (lv_room (Nat.le_of_ble_eq_true rfl)) dX19_init_20 ⟨(Nat.le_of_ble_eq_true rfl), (Nat.le_of_ble_eq_true rfl)⟩) hS (fun q _ h => hFc q h) hFc (fun  u t H1 locs ht hvm hw hB hz1 hk1 hS => ?_)
  obtain ⟨q_13, q_14, q_15, q_16, hP1, hK1, hD1⟩ := hB
  rw [ht] at hP1
  have hK1 := va_K.moved hvm.symm hK1
  obtain ⟨hP, hD⟩ := va_join (wr := [(h0, .inr (16, [.ref q_1, .null, .null, .null, .null, .null, .null, .null, .null, .null, .null, .int 0, .null, .null, .null, .null, .null, .null, .null, .null, .null, .null, .null, .int 0, .null, .null, .null, .int 0, .int 0, .int 0, .int 0, .int 0, .null, .int 0, .null, .int 0, .int 0, .int 0, .int 0, .null, .null]))]) (w1 := [(q_12, .inr (12, [.ref q_13, .ref q_14, .ref q_15, .int 0, .int 0, .ref q_16, .int 0])), (q_16, .inr (18, [.int 0, .ref sx_ed, .int 0]))]) hP hD [1] [0] rfl rfl (by decide) (by decide) hk1 hFc hP1 hD1
  have hK := (hK.sub (tys' := []) [] rfl).app hK1
  generalize H1 = H at hP hS ⊢
  have hP : va_P (dC, dI) vwP [(h0, .inr (16, [.ref q_1, .null, .null, .null, .null, .null, .null, .null, .null, .null, .null, .int 0, .null, .null, .null, .null, .null, .null, .null, .null, .null, .null, .null, .int 0, .null, .null, .null, .int 0, .int 0, .int 0, .int 0, .int 0, .null, .int 0, .null, .int 0, .int 0, .int 0, .int 0, .null, .null])), (q_12, .inr (12, [.ref q_13, .ref q_14, .ref q_15, .int 0, .int 0, .ref q_16, .int 0])), (q_16, .inr (18, [.int 0, .ref sx_ed, .int 0]))] H := hP
  have hD : va_D A [(h0, .inr (16, [.ref q_1, .null, .null, .null, .null, .null, .null, .null, .null, .null, .null, .int 0, .null, .null, .null, .null, .null, .null, .null, .null, .null, .null, .null, .int 0, .null, .null, .null, .int 0, .int 0, .int 0, .int 0, .int 0, .null, .int 0, .null, .int 0, .int 0, .int 0, .int 0, .null, .null])), (q_12, .inr (12, [.ref q_13, .ref q_14, .ref q_15, .int 0, .int 0, .ref q_16, .int 0])), (q_16, .inr (18, [.int 0, .ref sx_ed, .int 0]))] := hD
  have hK : va_K (dC, dI) vwP [] s := hK
  refine W.widen (k := 16) (n := 2036) (Nat.le_of_ble_eq_true rfl) (Nat.le_of_ble_eq_true rfl) ?_
  refine va_put (D := (dC, dI)) (ci := 16) (v := .ref q_12) (ty := .object "SsaForgeModel$Code") (C := RX19) (T := TX19) (N := 41) hx hb hts mem_X19_init_2 tyX19 tyX19_ok nmX19 hown hK hP hD hS 0 rfl rfl 1 (by decide) (ow (k := 12) rfl) (fun _ h9 => h9) rfl (by decide +kernel) rfl rfl (Nat.le_of_ble_eq_true rfl) dX19_init_23 (fun H locs hP hD hS => ?_)
  have hP : va_P (dC, dI) vwP [(h0, .inr (16, [.ref q_1, .ref q_12, .null, .null, .null, .null, .null, .null, .null, .null, .null, .int 0, .null, .null, .null, .null, .null, .null, .null, .null, .null, .null, .null, .int 0, .null, .null, .null, .int 0, .int 0, .int 0, .int 0, .int 0, .null, .int 0, .null, .int 0, .int 0, .int 0, .int 0, .null, .null])), (q_12, .inr (12, [.ref q_13, .ref q_14, .ref q_15, .int 0, .int 0, .ref q_16, .int 0])), (q_16, .inr (18, [.int 0, .ref sx_ed, .int 0]))] H := hP
  have hD : va_D A [(h0, .inr (16, [.ref q_1, .ref q_12, .null, .null, .null, .null, .null, .null, .null, .null, .null, .int 0, .null, .null, .null, .null, .null, .null, .null, .null, .null, .null, .null, .int 0, .null, .null, .null, .int 0, .int 0, .int 0, .int 0, .int 0, .null, .int 0, .null, .int 0, .int 0, .int 0, .int 0, .null, .null])), (q_12, .inr (12, [.ref q_13, .ref q_14, .ref q_15, .int 0, .int 0, .ref q_16, .int 0])), (q_16, .inr (18, [.int 0, .ref sx_ed, .int 0]))] := hD
  have hP := hP.sub (ws' := [(h0, .inr (16, [.ref q_1, .ref q_12, .null, .null, .null, .null, .null, .null, .null, .null, .null, .int 0, .null, .null, .null, .null, .null, .null, .null, .null, .null, .null, .null, .int 0, .null, .null, .null, .int 0, .int 0, .int 0, .int 0, .int 0, .null, .int 0, .null, .int 0, .int 0, .int 0, .int 0, .null, .null]))]) [0] rfl
  have hD := hD.sub (ws' := [(h0, .inr (16, [.ref q_1, .ref q_12, .null, .null, .null, .null, .null, .null, .null, .null, .null, .int 0, .null, .null, .null, .null, .null, .null, .null, .null, .null, .null, .null, .int 0, .null, .null, .null, .int 0, .int 0, .int 0, .int 0, .int 0, .null, .int 0, .null, .int 0, .int 0, .int 0, .int 0, .null, .null]))]) [0] (by decide) rfl
  refine lv_aload_n hx hb dX19_init_26 rfl (lv_at hl 0 rfl) ?_
  refine va_new (ci := 12) (fs := [.null, .null, .null, .int 0, .int 0, .null, .int 0]) (C := RX13) (T := TX13) (N := 7) hx hb hts mem_X19_init_3 tyX13 tyX13_ok hown (ow (k := 8) rfl) (ow (k := 9) rfl) (ow (k := 10) rfl) hK hP hD hS hA rfl (df_X13) (Nat.le_of_ble_eq_true rfl) (Nat.le_of_ble_eq_true rfl) dX19_init_27 (fun q_17 H hP hD hS => ?_)
  have hP : va_P (dC, dI) vwP [(h0, .inr (16, [.ref q_1, .ref q_12, .null, .null, .null, .null, .null, .null, .null, .null, .null, .int 0, .null, .null, .null, .null, .null, .null, .null, .null, .null, .null, .null, .int 0, .null, .null, .null, .int 0, .int 0, .int 0, .int 0, .int 0, .null, .int 0, .null, .int 0, .int 0, .int 0, .int 0, .null, .null])), (q_17, .inr (12, [.null, .null, .null, .int 0, .int 0, .null, .int 0]))] H := hP
  have hD : va_D A [(h0, .inr (16, [.ref q_1, .ref q_12, .null, .null, .null, .null, .null, .null, .null, .null, .null, .int 0, .null, .null, .null, .null, .null, .null, .null, .null, .null, .null, .null, .int 0, .null, .null, .null, .int 0, .int 0, .int 0, .int 0, .int 0, .null, .int 0, .null, .int 0, .int 0, .int 0, .int 0, .null, .null])), (q_17, .inr (12, [.null, .null, .null, .int 0, .int 0, .null, .int 0]))] := hD
  refine W.widen (k := 17) (n := 2043) (Nat.le_of_ble_eq_true rfl) (Nat.le_of_ble_eq_true rfl) ?_
  refine lv_dup hx hb dX19_init_30 rfl ?_
  have hPc := hP.sub (ws' := [(q_17, .inr (12, [.null, .null, .null, .int 0, .int 0, .null, .int 0]))]) [1] rfl
  have hDc := hD.sub (ws' := [(q_17, .inr (12, [.null, .null, .null, .int 0, .int 0, .null, .int 0]))]) [1] (by decide) rfl
  have hKc := hK.sub (tys' := []) [] rfl
  have hFc := va_free (wc := [(q_17, .inr (12, [.null, .null, .null, .int 0, .int 0, .null, .int 0]))]) hD hS hA [1] rfl
  refine va_callv (va_runIN (As := []) (rest := [.ref q_17, .ref h0]) ⟨hx, hb, hml, hown, hts⟩ (c_X13_init l dC dI q_17 H.size sx_ed) ⟨va_cnB 0 hts (goodIn_sub mem_X19_init_4 gw_X13_init) rfl rfl rfl hp1 (ow (k := 10) rfl) (by decide +kernel) ⟨(Nat.le_of_ble_eq_true rfl), (Nat.le_of_ble_eq_true rfl)⟩, rfl, (ow (k := 11) rfl)⟩ ⟨fun a U g mk q => by obtain ⟨q0, q1, qP, qK, qD, e0⟩ := q; exact ⟨q0, q1, qP, va_K.moved (u := U) (U := U.calling g mk a) (Vm.Alike.refl U.vm) qK, qD, va_Z.moved (u := U) (U := U.calling g mk a) (Vm.Alike.refl U.vm) e0⟩, fun U hU hW => ⟨rfl, by rw [hU], by rw [hU]; exact hPc, va_K.moved hW.alike hKc, hDc.weaken (fun _ _ _ _ => trivial), by rw [hU]; exact va_Z.narrow (va_Z.moved hW.alike (va_Z.kept hp3 hS.2.1)) hFc⟩⟩ rfl rfl hl.1 rfl (lv_room (Nat.le_of_ble_eq_true rfl)) dX19_init_31 ⟨(Nat.le_of_ble_eq_true rfl), (Nat.le_of_ble_eq_true rfl)⟩) hS (fun q _ h => hFc q h) hFc (fun  u t H1 locs ht hvm hw hB hz1 hk1 hS => ?_)
  obtain ⟨q_18, q_19, q_20, q_21, hP1, hK1, hD1⟩ := hB
  rw [ht] at hP1
  have hK1 := va_K.moved hvm.symm hK1
  obtain ⟨hP, hD⟩ := va_join (wr := [(h0, .inr (16, [.ref q_1, .ref q_12, .null, .null, .null, .null, .null, .null, .null, .null, .null, .int 0, .null, .null, .null, .null, .null, .null, .null, .null, .null, .null, .null, .int 0, .null, .null, .null, .int 0, .int 0, .int 0, .int 0, .int 0, .null, .int 0, .null, .int 0, .int 0, .int 0, .int 0, .null, .null]))]) (w1 := [(q_17, .inr (12, [.ref q_18, .ref q_19, .ref q_20, .int 0, .int 0, .ref q_21, .int 0])), (q_21, .inr (18, [.int 0, .ref sx_ed, .int 0]))]) hP hD [1] [0] rfl rfl (by decide) (by decide) hk1 hFc hP1 hD1
  have hK := (hK.sub (tys' := []) [] rfl).app hK1
  generalize H1 = H at hP hS ⊢
  have hP : va_P (dC, dI) vwP [(h0, .inr (16, [.ref q_1, .ref q_12, .null, .null, .null, .null, .null, .null, .null, .null, .null, .int 0, .null, .null, .null, .null, .null, .null, .null, .null, .null, .null, .null, .int 0, .null, .null, .null, .int 0, .int 0, .int 0, .int 0, .int 0, .null, .int 0, .null, .int 0, .int 0, .int 0, .int 0, .null, .null])), (q_17, .inr (12, [.ref q_18, .ref q_19, .ref q_20, .int 0, .int 0, .ref q_21, .int 0])), (q_21, .inr (18, [.int 0, .ref sx_ed, .int 0]))] H := hP
  have hD : va_D A [(h0, .inr (16, [.ref q_1, .ref q_12, .null, .null, .null, .null, .null, .null, .null, .null, .null, .int 0, .null, .null, .null, .null, .null, .null, .null, .null, .null, .null, .null, .int 0, .null, .null, .null, .int 0, .int 0, .int 0, .int 0, .int 0, .null, .int 0, .null, .int 0, .int 0, .int 0, .int 0, .null, .null])), (q_17, .inr (12, [.ref q_18, .ref q_19, .ref q_20, .int 0, .int 0, .ref q_21, .int 0])), (q_21, .inr (18, [.int 0, .ref sx_ed, .int 0]))] := hD
  have hK : va_K (dC, dI) vwP [] s := hK
  refine W.widen (k := 21) (n := 2055) (Nat.le_of_ble_eq_true rfl) (Nat.le_of_ble_eq_true rfl) ?_
  refine va_put (D := (dC, dI)) (ci := 16) (v := .ref q_17) (ty := .object "SsaForgeModel$Code") (C := RX19) (T := TX19) (N := 41) hx hb hts mem_X19_init_2 tyX19 tyX19_ok nmX19 hown hK hP hD hS 0 rfl rfl 2 (by decide) (ow (k := 13) rfl) (fun _ h9 => h9) rfl (by decide +kernel) rfl rfl (Nat.le_of_ble_eq_true rfl) dX19_init_34 (fun H locs hP hD hS => ?_)
  have hP : va_P (dC, dI) vwP [(h0, .inr (16, [.ref q_1, .ref q_12, .ref q_17, .null, .null, .null, .null, .null, .null, .null, .null, .int 0, .null, .null, .null, .null, .null, .null, .null, .null, .null, .null, .null, .int 0, .null, .null, .null, .int 0, .int 0, .int 0, .int 0, .int 0, .null, .int 0, .null, .int 0, .int 0, .int 0, .int 0, .null, .null])), (q_17, .inr (12, [.ref q_18, .ref q_19, .ref q_20, .int 0, .int 0, .ref q_21, .int 0])), (q_21, .inr (18, [.int 0, .ref sx_ed, .int 0]))] H := hP
  have hD : va_D A [(h0, .inr (16, [.ref q_1, .ref q_12, .ref q_17, .null, .null, .null, .null, .null, .null, .null, .null, .int 0, .null, .null, .null, .null, .null, .null, .null, .null, .null, .null, .null, .int 0, .null, .null, .null, .int 0, .int 0, .int 0, .int 0, .int 0, .null, .int 0, .null, .int 0, .int 0, .int 0, .int 0, .null, .null])), (q_17, .inr (12, [.ref q_18, .ref q_19, .ref q_20, .int 0, .int 0, .ref q_21, .int 0])), (q_21, .inr (18, [.int 0, .ref sx_ed, .int 0]))] := hD
  refine lv_aload_n hx hb dX19_init_37 rfl (lv_at hl 0 rfl) ?_
  refine lv_iconst (v := 0) hx hb dX19_init_38 (by decide) ?_
  refine va_newa (ty := .int) (n := 0) (N' := 0) (a0 := (0, .inl (fun _ => 0))) hx hb (ow (k := 14) rfl) rfl hK hP hD hS hA (fun _ => rfl) (by decide) (by decide) (by decide) (Nat.le_of_ble_eq_true rfl) (Nat.le_of_ble_eq_true rfl) dX19_init_39 (fun q_22 cA_23 H hK hP hD hS => ?_)
  have hP : va_P (dC, dI) vwP [(h0, .inr (16, [.ref q_1, .ref q_12, .ref q_17, .null, .null, .null, .null, .null, .null, .null, .null, .int 0, .null, .null, .null, .null, .null, .null, .null, .null, .null, .null, .null, .int 0, .null, .null, .null, .int 0, .int 0, .int 0, .int 0, .int 0, .null, .int 0, .null, .int 0, .int 0, .int 0, .int 0, .null, .null])), (q_17, .inr (12, [.ref q_18, .ref q_19, .ref q_20, .int 0, .int 0, .ref q_21, .int 0])), (q_21, .inr (18, [.int 0, .ref sx_ed, .int 0])), (q_22, .inl (cA_23, 0, .inl (fun _ => 0)))] H := hP
  have hD : va_D A [(h0, .inr (16, [.ref q_1, .ref q_12, .ref q_17, .null, .null, .null, .null, .null, .null, .null, .null, .int 0, .null, .null, .null, .null, .null, .null, .null, .null, .null, .null, .null, .int 0, .null, .null, .null, .int 0, .int 0, .int 0, .int 0, .int 0, .null, .int 0, .null, .int 0, .int 0, .int 0, .int 0, .null, .null])), (q_17, .inr (12, [.ref q_18, .ref q_19, .ref q_20, .int 0, .int 0, .ref q_21, .int 0])), (q_21, .inr (18, [.int 0, .ref sx_ed, .int 0])), (q_22, .inl (cA_23, 0, .inl (fun _ => 0)))] := hD
  have hK : va_K (dC, dI) vwP [(cA_23, .int)] s := hK
  refine W.widen (k := 22) (n := 2055) (Nat.le_of_ble_eq_true rfl) (Nat.le_of_ble_eq_true rfl) ?_
  refine va_put (D := (dC, dI)) (ci := 16) (v := .ref q_22) (ty := .array .int) (C := RX19) (T := TX19) (N := 41) hx hb hts mem_X19_init_2 tyX19 tyX19_ok nmX19 hown hK hP hD hS 0 rfl rfl 3 (by decide) (ow (k := 15) rfl) (fun _ h9 => h9) rfl (by decide +kernel) rfl rfl (Nat.le_of_ble_eq_true rfl) dX19_init_41 (fun H locs hP hD hS => ?_)
  have hP : va_P (dC, dI) vwP [(h0, .inr (16, [.ref q_1, .ref q_12, .ref q_17, .ref q_22, .null, .null, .null, .null, .null, .null, .null, .int 0, .null, .null, .null, .null, .null, .null, .null, .null, .null, .null, .null, .int 0, .null, .null, .null, .int 0, .int 0, .int 0, .int 0, .int 0, .null, .int 0, .null, .int 0, .int 0, .int 0, .int 0, .null, .null])), (q_17, .inr (12, [.ref q_18, .ref q_19, .ref q_20, .int 0, .int 0, .ref q_21, .int 0])), (q_21, .inr (18, [.int 0, .ref sx_ed, .int 0])), (q_22, .inl (cA_23, 0, .inl (fun _ => 0)))] H := hP
  have hD : va_D A [(h0, .inr (16, [.ref q_1, .ref q_12, .ref q_17, .ref q_22, .null, .null, .null, .null, .null, .null, .null, .int 0, .null, .null, .null, .null, .null, .null, .null, .null, .null, .null, .null, .int 0, .null, .null, .null, .int 0, .int 0, .int 0, .int 0, .int 0, .null, .int 0, .null, .int 0, .int 0, .int 0, .int 0, .null, .null])), (q_17, .inr (12, [.ref q_18, .ref q_19, .ref q_20, .int 0, .int 0, .ref q_21, .int 0])), (q_21, .inr (18, [.int 0, .ref sx_ed, .int 0])), (q_22, .inl (cA_23, 0, .inl (fun _ => 0)))] := hD
  have hP := hP.sub (ws' := [(h0, .inr (16, [.ref q_1, .ref q_12, .ref q_17, .ref q_22, .null, .null, .null, .null, .null, .null, .null, .int 0, .null, .null, .null, .null, .null, .null, .null, .null, .null, .null, .null, .int 0, .null, .null, .null, .int 0, .int 0, .int 0, .int 0, .int 0, .null, .int 0, .null, .int 0, .int 0, .int 0, .int 0, .null, .null])), (q_17, .inr (12, [.ref q_18, .ref q_19, .ref q_20, .int 0, .int 0, .ref q_21, .int 0])), (q_21, .inr (18, [.int 0, .ref sx_ed, .int 0]))]) [0, 1, 2] rfl
  have hD := hD.sub (ws' := [(h0, .inr (16, [.ref q_1, .ref q_12, .ref q_17, .ref q_22, .null, .null, .null, .null, .null, .null, .null, .int 0, .null, .null, .null, .null, .null, .null, .null, .null, .null, .null, .null, .int 0, .null, .null, .null, .int 0, .int 0, .int 0, .int 0, .int 0, .null, .int 0, .null, .int 0, .int 0, .int 0, .int 0, .null, .null])), (q_17, .inr (12, [.ref q_18, .ref q_19, .ref q_20, .int 0, .int 0, .ref q_21, .int 0])), (q_21, .inr (18, [.int 0, .ref sx_ed, .int 0]))]) [0, 1, 2] (by decide) rfl
  have hK := hK.sub (tys' := []) [] rfl
  refine lv_aload_n hx hb dX19_init_44 rfl (lv_at hl 0 rfl) ?_
  refine lv_iconst (v := 0) hx hb dX19_init_45 (by decide) ?_
  refine va_newa (ty := .boolean) (n := 0) (N' := 0) (a0 := (0, .inl (fun _ => 0))) hx hb (ow (k := 16) rfl) rfl hK hP hD hS hA (fun _ => rfl) (by decide) (by decide) (by decide) (Nat.le_of_ble_eq_true rfl) (Nat.le_of_ble_eq_true rfl) dX19_init_46 (fun q_24 cA_25 H hK hP hD hS => ?_)
  have hP : va_P (dC, dI) vwP [(h0, .inr (16, [.ref q_1, .ref q_12, .ref q_17, .ref q_22, .null, .null, .null, .null, .null, .null, .null, .int 0, .null, .null, .null, .null, .null, .null, .null, .null, .null, .null, .null, .int 0, .null, .null, .null, .int 0, .int 0, .int 0, .int 0, .int 0, .null, .int 0, .null, .int 0, .int 0, .int 0, .int 0, .null, .null])), (q_17, .inr (12, [.ref q_18, .ref q_19, .ref q_20, .int 0, .int 0, .ref q_21, .int 0])), (q_21, .inr (18, [.int 0, .ref sx_ed, .int 0])), (q_24, .inl (cA_25, 0, .inl (fun _ => 0)))] H := hP
  have hD : va_D A [(h0, .inr (16, [.ref q_1, .ref q_12, .ref q_17, .ref q_22, .null, .null, .null, .null, .null, .null, .null, .int 0, .null, .null, .null, .null, .null, .null, .null, .null, .null, .null, .null, .int 0, .null, .null, .null, .int 0, .int 0, .int 0, .int 0, .int 0, .null, .int 0, .null, .int 0, .int 0, .int 0, .int 0, .null, .null])), (q_17, .inr (12, [.ref q_18, .ref q_19, .ref q_20, .int 0, .int 0, .ref q_21, .int 0])), (q_21, .inr (18, [.int 0, .ref sx_ed, .int 0])), (q_24, .inl (cA_25, 0, .inl (fun _ => 0)))] := hD
  have hK : va_K (dC, dI) vwP [(cA_25, .boolean)] s := hK
  refine W.widen (k := 23) (n := 2055) (Nat.le_of_ble_eq_true rfl) (Nat.le_of_ble_eq_true rfl) ?_
  refine va_put (D := (dC, dI)) (ci := 16) (v := .ref q_24) (ty := .array .boolean) (C := RX19) (T := TX19) (N := 41) hx hb hts mem_X19_init_2 tyX19 tyX19_ok nmX19 hown hK hP hD hS 0 rfl rfl 4 (by decide) (ow (k := 17) rfl) (fun _ h9 => h9) rfl (by decide +kernel) rfl rfl (Nat.le_of_ble_eq_true rfl) dX19_init_48 (fun H locs hP hD hS => ?_)
  have hP : va_P (dC, dI) vwP [(h0, .inr (16, [.ref q_1, .ref q_12, .ref q_17, .ref q_22, .ref q_24, .null, .null, .null, .null, .null, .null, .int 0, .null, .null, .null, .null, .null, .null, .null, .null, .null, .null, .null, .int 0, .null, .null, .null, .int 0, .int 0, .int 0, .int 0, .int 0, .null, .int 0, .null, .int 0, .int 0, .int 0, .int 0, .null, .null])), (q_17, .inr (12, [.ref q_18, .ref q_19, .ref q_20, .int 0, .int 0, .ref q_21, .int 0])), (q_21, .inr (18, [.int 0, .ref sx_ed, .int 0])), (q_24, .inl (cA_25, 0, .inl (fun _ => 0)))] H := hP
  have hD : va_D A [(h0, .inr (16, [.ref q_1, .ref q_12, .ref q_17, .ref q_22, .ref q_24, .null, .null, .null, .null, .null, .null, .int 0, .null, .null, .null, .null, .null, .null, .null, .null, .null, .null, .null, .int 0, .null, .null, .null, .int 0, .int 0, .int 0, .int 0, .int 0, .null, .int 0, .null, .int 0, .int 0, .int 0, .int 0, .null, .null])), (q_17, .inr (12, [.ref q_18, .ref q_19, .ref q_20, .int 0, .int 0, .ref q_21, .int 0])), (q_21, .inr (18, [.int 0, .ref sx_ed, .int 0])), (q_24, .inl (cA_25, 0, .inl (fun _ => 0)))] := hD
  have hP := hP.sub (ws' := [(h0, .inr (16, [.ref q_1, .ref q_12, .ref q_17, .ref q_22, .ref q_24, .null, .null, .null, .null, .null, .null, .int 0, .null, .null, .null, .null, .null, .null, .null, .null, .null, .null, .null, .int 0, .null, .null, .null, .int 0, .int 0, .int 0, .int 0, .int 0, .null, .int 0, .null, .int 0, .int 0, .int 0, .int 0, .null, .null])), (q_17, .inr (12, [.ref q_18, .ref q_19, .ref q_20, .int 0, .int 0, .ref q_21, .int 0])), (q_21, .inr (18, [.int 0, .ref sx_ed, .int 0]))]) [0, 1, 2] rfl
  have hD := hD.sub (ws' := [(h0, .inr (16, [.ref q_1, .ref q_12, .ref q_17, .ref q_22, .ref q_24, .null, .null, .null, .null, .null, .null, .int 0, .null, .null, .null, .null, .null, .null, .null, .null, .null, .null, .null, .int 0, .null, .null, .null, .int 0, .int 0, .int 0, .int 0, .int 0, .null, .int 0, .null, .int 0, .int 0, .int 0, .int 0, .null, .null])), (q_17, .inr (12, [.ref q_18, .ref q_19, .ref q_20, .int 0, .int 0, .ref q_21, .int 0])), (q_21, .inr (18, [.int 0, .ref sx_ed, .int 0]))]) [0, 1, 2] (by decide) rfl
  have hK := hK.sub (tys' := []) [] rfl
  refine lv_aload_n hx hb dX19_init_51 rfl (lv_at hl 0 rfl) ?_
  refine lv_iconst (v := 0) hx hb dX19_init_52 (by decide) ?_
  refine va_newa (ty := .boolean) (n := 0) (N' := 0) (a0 := (0, .inl (fun _ => 0))) hx hb (ow (k := 16) rfl) rfl hK hP hD hS hA (fun _ => rfl) (by decide) (by decide) (by decide) (Nat.le_of_ble_eq_true rfl) (Nat.le_of_ble_eq_true rfl) dX19_init_53 (fun q_26 cA_27 H hK hP hD hS => ?_)
  have hP : va_P (dC, dI) vwP [(h0, .inr (16, [.ref q_1, .ref q_12, .ref q_17, .ref q_22, .ref q_24, .null, .null, .null, .null, .null, .null, .int 0, .null, .null, .null, .null, .null, .null, .null, .null, .null, .null, .null, .int 0, .null, .null, .null, .int 0, .int 0, .int 0, .int 0, .int 0, .null, .int 0, .null, .int 0, .int 0, .int 0, .int 0, .null, .null])), (q_17, .inr (12, [.ref q_18, .ref q_19, .ref q_20, .int 0, .int 0, .ref q_21, .int 0])), (q_21, .inr (18, [.int 0, .ref sx_ed, .int 0])), (q_26, .inl (cA_27, 0, .inl (fun _ => 0)))] H := hP
  have hD : va_D A [(h0, .inr (16, [.ref q_1, .ref q_12, .ref q_17, .ref q_22, .ref q_24, .null, .null, .null, .null, .null, .null, .int 0, .null, .null, .null, .null, .null, .null, .null, .null, .null, .null, .null, .int 0, .null, .null, .null, .int 0, .int 0, .int 0, .int 0, .int 0, .null, .int 0, .null, .int 0, .int 0, .int 0, .int 0, .null, .null])), (q_17, .inr (12, [.ref q_18, .ref q_19, .ref q_20, .int 0, .int 0, .ref q_21, .int 0])), (q_21, .inr (18, [.int 0, .ref sx_ed, .int 0])), (q_26, .inl (cA_27, 0, .inl (fun _ => 0)))] := hD
  have hK : va_K (dC, dI) vwP [(cA_27, .boolean)] s := hK
  refine W.widen (k := 24) (n := 2055) (Nat.le_of_ble_eq_true rfl) (Nat.le_of_ble_eq_true rfl) ?_
  refine va_put (D := (dC, dI)) (ci := 16) (v := .ref q_26) (ty := .array .boolean) (C := RX19) (T := TX19) (N := 41) hx hb hts mem_X19_init_2 tyX19 tyX19_ok nmX19 hown hK hP hD hS 0 rfl rfl 5 (by decide) (ow (k := 18) rfl) (fun _ h9 => h9) rfl (by decide +kernel) rfl rfl (Nat.le_of_ble_eq_true rfl) dX19_init_55 (fun H locs hP hD hS => ?_)
  have hP : va_P (dC, dI) vwP [(h0, .inr (16, [.ref q_1, .ref q_12, .ref q_17, .ref q_22, .ref q_24, .ref q_26, .null, .null, .null, .null, .null, .int 0, .null, .null, .null, .null, .null, .null, .null, .null, .null, .null, .null, .int 0, .null, .null, .null, .int 0, .int 0, .int 0, .int 0, .int 0, .null, .int 0, .null, .int 0, .int 0, .int 0, .int 0, .null, .null])), (q_17, .inr (12, [.ref q_18, .ref q_19, .ref q_20, .int 0, .int 0, .ref q_21, .int 0])), (q_21, .inr (18, [.int 0, .ref sx_ed, .int 0])), (q_26, .inl (cA_27, 0, .inl (fun _ => 0)))] H := hP
  have hD : va_D A [(h0, .inr (16, [.ref q_1, .ref q_12, .ref q_17, .ref q_22, .ref q_24, .ref q_26, .null, .null, .null, .null, .null, .int 0, .null, .null, .null, .null, .null, .null, .null, .null, .null, .null, .null, .int 0, .null, .null, .null, .int 0, .int 0, .int 0, .int 0, .int 0, .null, .int 0, .null, .int 0, .int 0, .int 0, .int 0, .null, .null])), (q_17, .inr (12, [.ref q_18, .ref q_19, .ref q_20, .int 0, .int 0, .ref q_21, .int 0])), (q_21, .inr (18, [.int 0, .ref sx_ed, .int 0])), (q_26, .inl (cA_27, 0, .inl (fun _ => 0)))] := hD
  have hP := hP.sub (ws' := [(h0, .inr (16, [.ref q_1, .ref q_12, .ref q_17, .ref q_22, .ref q_24, .ref q_26, .null, .null, .null, .null, .null, .int 0, .null, .null, .null, .null, .null, .null, .null, .null, .null, .null, .null, .int 0, .null, .null, .null, .int 0, .int 0, .int 0, .int 0, .int 0, .null, .int 0, .null, .int 0, .int 0, .int 0, .int 0, .null, .null])), (q_17, .inr (12, [.ref q_18, .ref q_19, .ref q_20, .int 0, .int 0, .ref q_21, .int 0])), (q_21, .inr (18, [.int 0, .ref sx_ed, .int 0]))]) [0, 1, 2] rfl
  have hD := hD.sub (ws' := [(h0, .inr (16, [.ref q_1, .ref q_12, .ref q_17, .ref q_22, .ref q_24, .ref q_26, .null, .null, .null, .null, .null, .int 0, .null, .null, .null, .null, .null, .null, .null, .null, .null, .null, .null, .int 0, .null, .null, .null, .int 0, .int 0, .int 0, .int 0, .int 0, .null, .int 0, .null, .int 0, .int 0, .int 0, .int 0, .null, .null])), (q_17, .inr (12, [.ref q_18, .ref q_19, .ref q_20, .int 0, .int 0, .ref q_21, .int 0])), (q_21, .inr (18, [.int 0, .ref sx_ed, .int 0]))]) [0, 1, 2] (by decide) rfl
  have hK := hK.sub (tys' := []) [] rfl
  refine lv_aload_n hx hb dX19_init_58 rfl (lv_at hl 0 rfl) ?_
  refine lv_iconst (v := 0) hx hb dX19_init_59 (by decide) ?_
  refine vy_anew (t := .int) (N' := 0) hx hb hown (ow (k := 19) rfl) hp4 hP hD hS (by decide) (by decide) (by decide) (Nat.le_of_ble_eq_true rfl) (Nat.le_of_ble_eq_true rfl) dX19_init_60 (fun q_28 H hP hS => ?_)
  have hP : va_P (dC, dI) vwP [(h0, .inr (16, [.ref q_1, .ref q_12, .ref q_17, .ref q_22, .ref q_24, .ref q_26, .null, .null, .null, .null, .null, .int 0, .null, .null, .null, .null, .null, .null, .null, .null, .null, .null, .null, .int 0, .null, .null, .null, .int 0, .int 0, .int 0, .int 0, .int 0, .null, .int 0, .null, .int 0, .int 0, .int 0, .int 0, .null, .null])), (q_17, .inr (12, [.ref q_18, .ref q_19, .ref q_20, .int 0, .int 0, .ref q_21, .int 0])), (q_21, .inr (18, [.int 0, .ref sx_ed, .int 0]))] H := hP
  have hD : va_D A [(h0, .inr (16, [.ref q_1, .ref q_12, .ref q_17, .ref q_22, .ref q_24, .ref q_26, .null, .null, .null, .null, .null, .int 0, .null, .null, .null, .null, .null, .null, .null, .null, .null, .null, .null, .int 0, .null, .null, .null, .int 0, .int 0, .int 0, .int 0, .int 0, .null, .int 0, .null, .int 0, .int 0, .int 0, .int 0, .null, .null])), (q_17, .inr (12, [.ref q_18, .ref q_19, .ref q_20, .int 0, .int 0, .ref q_21, .int 0])), (q_21, .inr (18, [.int 0, .ref sx_ed, .int 0]))] := hD
  refine W.widen (k := 25) (n := 2055) (Nat.le_of_ble_eq_true rfl) (Nat.le_of_ble_eq_true rfl) ?_
  refine va_put (D := (dC, dI)) (ci := 16) (v := .ref q_28) (ty := .array (.array .int)) (C := RX19) (T := TX19) (N := 41) hx hb hts mem_X19_init_2 tyX19 tyX19_ok nmX19 hown hK hP hD hS 0 rfl rfl 6 (by decide) (ow (k := 20) rfl) (fun _ h9 => h9) rfl (by decide +kernel) rfl rfl (Nat.le_of_ble_eq_true rfl) dX19_init_63 (fun H locs hP hD hS => ?_)
  have hP : va_P (dC, dI) vwP [(h0, .inr (16, [.ref q_1, .ref q_12, .ref q_17, .ref q_22, .ref q_24, .ref q_26, .ref q_28, .null, .null, .null, .null, .int 0, .null, .null, .null, .null, .null, .null, .null, .null, .null, .null, .null, .int 0, .null, .null, .null, .int 0, .int 0, .int 0, .int 0, .int 0, .null, .int 0, .null, .int 0, .int 0, .int 0, .int 0, .null, .null])), (q_17, .inr (12, [.ref q_18, .ref q_19, .ref q_20, .int 0, .int 0, .ref q_21, .int 0])), (q_21, .inr (18, [.int 0, .ref sx_ed, .int 0]))] H := hP
  have hD : va_D A [(h0, .inr (16, [.ref q_1, .ref q_12, .ref q_17, .ref q_22, .ref q_24, .ref q_26, .ref q_28, .null, .null, .null, .null, .int 0, .null, .null, .null, .null, .null, .null, .null, .null, .null, .null, .null, .int 0, .null, .null, .null, .int 0, .int 0, .int 0, .int 0, .int 0, .null, .int 0, .null, .int 0, .int 0, .int 0, .int 0, .null, .null])), (q_17, .inr (12, [.ref q_18, .ref q_19, .ref q_20, .int 0, .int 0, .ref q_21, .int 0])), (q_21, .inr (18, [.int 0, .ref sx_ed, .int 0]))] := hD
  refine lv_aload_n hx hb dX19_init_66 rfl (lv_at hl 0 rfl) ?_
  refine lv_sipush (v := 1002) hx hb dX19_init_67 (by decide) ?_
  refine va_newa (ty := .int) (n := 1002) (N' := 1002) (a0 := (1002, .inl (fun _ => 0))) hx hb (ow (k := 14) rfl) rfl hK hP hD hS hA (fun _ => rfl) (by decide) (by decide) (by decide) (Nat.le_of_ble_eq_true rfl) (Nat.le_of_ble_eq_true rfl) dX19_init_70 (fun q_29 cA_30 H hK hP hD hS => ?_)
  have hP : va_P (dC, dI) vwP [(h0, .inr (16, [.ref q_1, .ref q_12, .ref q_17, .ref q_22, .ref q_24, .ref q_26, .ref q_28, .null, .null, .null, .null, .int 0, .null, .null, .null, .null, .null, .null, .null, .null, .null, .null, .null, .int 0, .null, .null, .null, .int 0, .int 0, .int 0, .int 0, .int 0, .null, .int 0, .null, .int 0, .int 0, .int 0, .int 0, .null, .null])), (q_17, .inr (12, [.ref q_18, .ref q_19, .ref q_20, .int 0, .int 0, .ref q_21, .int 0])), (q_21, .inr (18, [.int 0, .ref sx_ed, .int 0])), (q_29, .inl (cA_30, 1002, .inl (fun _ => 0)))] H := hP
  have hD : va_D A [(h0, .inr (16, [.ref q_1, .ref q_12, .ref q_17, .ref q_22, .ref q_24, .ref q_26, .ref q_28, .null, .null, .null, .null, .int 0, .null, .null, .null, .null, .null, .null, .null, .null, .null, .null, .null, .int 0, .null, .null, .null, .int 0, .int 0, .int 0, .int 0, .int 0, .null, .int 0, .null, .int 0, .int 0, .int 0, .int 0, .null, .null])), (q_17, .inr (12, [.ref q_18, .ref q_19, .ref q_20, .int 0, .int 0, .ref q_21, .int 0])), (q_21, .inr (18, [.int 0, .ref sx_ed, .int 0])), (q_29, .inl (cA_30, 1002, .inl (fun _ => 0)))] := hD
  have hK : va_K (dC, dI) vwP [(cA_30, .int)] s := hK
  refine W.widen (k := 26) (n := 3057) (Nat.le_of_ble_eq_true rfl) (Nat.le_of_ble_eq_true rfl) ?_
  refine va_putF (D := (dC, dI)) (ci := 16) (v := .ref q_29) (ty := .array .int) (C := RX19) (T := TX19) (N := 41) hx hb hts mem_X19_init_2 tyX19 tyX19_ok nmX19 hown hK hP hD hS 0 rfl rfl 7 (by decide) (ow (k := 21) rfl) (fun _ h9 => h9) rfl hin rfl (by decide +kernel) rfl rfl (Nat.le_of_ble_eq_true rfl) dX19_init_72 (fun H locs hP hD hS => ?_)
  have hP : va_P (dC, dI) vwP [(h0, .inr (16, [.ref q_1, .ref q_12, .ref q_17, .ref q_22, .ref q_24, .ref q_26, .ref q_28, .ref q_29, .null, .null, .null, .int 0, .null, .null, .null, .null, .null, .null, .null, .null, .null, .null, .null, .int 0, .null, .null, .null, .int 0, .int 0, .int 0, .int 0, .int 0, .null, .int 0, .null, .int 0, .int 0, .int 0, .int 0, .null, .null])), (q_17, .inr (12, [.ref q_18, .ref q_19, .ref q_20, .int 0, .int 0, .ref q_21, .int 0])), (q_21, .inr (18, [.int 0, .ref sx_ed, .int 0])), (q_29, .inl (cA_30, 1002, .inl (fun _ => 0)))] H := hP
  have hD : va_D A [(h0, .inr (16, [.ref q_1, .ref q_12, .ref q_17, .ref q_22, .ref q_24, .ref q_26, .ref q_28, .ref q_29, .null, .null, .null, .int 0, .null, .null, .null, .null, .null, .null, .null, .null, .null, .null, .null, .int 0, .null, .null, .null, .int 0, .int 0, .int 0, .int 0, .int 0, .null, .int 0, .null, .int 0, .int 0, .int 0, .int 0, .null, .null])), (q_17, .inr (12, [.ref q_18, .ref q_19, .ref q_20, .int 0, .int 0, .ref q_21, .int 0])), (q_21, .inr (18, [.int 0, .ref sx_ed, .int 0])), (q_29, .inl (cA_30, 1002, .inl (fun _ => 0)))] := hD
  have hP := hP.sub (ws' := [(h0, .inr (16, [.ref q_1, .ref q_12, .ref q_17, .ref q_22, .ref q_24, .ref q_26, .ref q_28, .ref q_29, .null, .null, .null, .int 0, .null, .null, .null, .null, .null, .null, .null, .null, .null, .null, .null, .int 0, .null, .null, .null, .int 0, .int 0, .int 0, .int 0, .int 0, .null, .int 0, .null, .int 0, .int 0, .int 0, .int 0, .null, .null])), (q_17, .inr (12, [.ref q_18, .ref q_19, .ref q_20, .int 0, .int 0, .ref q_21, .int 0])), (q_21, .inr (18, [.int 0, .ref sx_ed, .int 0]))]) [0, 1, 2] rfl
  have hD := hD.sub (ws' := [(h0, .inr (16, [.ref q_1, .ref q_12, .ref q_17, .ref q_22, .ref q_24, .ref q_26, .ref q_28, .ref q_29, .null, .null, .null, .int 0, .null, .null, .null, .null, .null, .null, .null, .null, .null, .null, .null, .int 0, .null, .null, .null, .int 0, .int 0, .int 0, .int 0, .int 0, .null, .int 0, .null, .int 0, .int 0, .int 0, .int 0, .null, .null])), (q_17, .inr (12, [.ref q_18, .ref q_19, .ref q_20, .int 0, .int 0, .ref q_21, .int 0])), (q_21, .inr (18, [.int 0, .ref sx_ed, .int 0]))]) [0, 1, 2] (by decide) rfl
  have hK := hK.sub (tys' := []) [] rfl
  refine lv_aload_n hx hb dX19_init_75 rfl (lv_at hl 0 rfl) ?_
  refine lv_sipush (v := 1002) hx hb dX19_init_76 (by decide) ?_
  refine va_newa (ty := .int) (n := 1002) (N' := 1002) (a0 := (1002, .inl (fun _ => 0))) hx hb (ow (k := 14) rfl) rfl hK hP hD hS hA (fun _ => rfl) (by decide) (by decide) (by decide) (Nat.le_of_ble_eq_true rfl) (Nat.le_of_ble_eq_true rfl) dX19_init_79 (fun q_31 cA_32 H hK hP hD hS => ?_)
  have hP : va_P (dC, dI) vwP [(h0, .inr (16, [.ref q_1, .ref q_12, .ref q_17, .ref q_22, .ref q_24, .ref q_26, .ref q_28, .ref q_29, .null, .null, .null, .int 0, .null, .null, .null, .null, .null, .null, .null, .null, .null, .null, .null, .int 0, .null, .null, .null, .int 0, .int 0, .int 0, .int 0, .int 0, .null, .int 0, .null, .int 0, .int 0, .int 0, .int 0, .null, .null])), (q_17, .inr (12, [.ref q_18, .ref q_19, .ref q_20, .int 0, .int 0, .ref q_21, .int 0])), (q_21, .inr (18, [.int 0, .ref sx_ed, .int 0])), (q_31, .inl (cA_32, 1002, .inl (fun _ => 0)))] H := hP
  have hD : va_D A [(h0, .inr (16, [.ref q_1, .ref q_12, .ref q_17, .ref q_22, .ref q_24, .ref q_26, .ref q_28, .ref q_29, .null, .null, .null, .int 0, .null, .null, .null, .null, .null, .null, .null, .null, .null, .null, .null, .int 0, .null, .null, .null, .int 0, .int 0, .int 0, .int 0, .int 0, .null, .int 0, .null, .int 0, .int 0, .int 0, .int 0, .null, .null])), (q_17, .inr (12, [.ref q_18, .ref q_19, .ref q_20, .int 0, .int 0, .ref q_21, .int 0])), (q_21, .inr (18, [.int 0, .ref sx_ed, .int 0])), (q_31, .inl (cA_32, 1002, .inl (fun _ => 0)))] := hD
  have hK : va_K (dC, dI) vwP [(cA_32, .int)] s := hK
  refine W.widen (k := 27) (n := 4059) (Nat.le_of_ble_eq_true rfl) (Nat.le_of_ble_eq_true rfl) ?_
  refine va_putF (D := (dC, dI)) (ci := 16) (v := .ref q_31) (ty := .array .int) (C := RX19) (T := TX19) (N := 41) hx hb hts mem_X19_init_2 tyX19 tyX19_ok nmX19 hown hK hP hD hS 0 rfl rfl 8 (by decide) (ow (k := 22) rfl) (fun _ h9 => h9) rfl hin rfl (by decide +kernel) rfl rfl (Nat.le_of_ble_eq_true rfl) dX19_init_81 (fun H locs hP hD hS => ?_)
  have hP : va_P (dC, dI) vwP [(h0, .inr (16, [.ref q_1, .ref q_12, .ref q_17, .ref q_22, .ref q_24, .ref q_26, .ref q_28, .ref q_29, .ref q_31, .null, .null, .int 0, .null, .null, .null, .null, .null, .null, .null, .null, .null, .null, .null, .int 0, .null, .null, .null, .int 0, .int 0, .int 0, .int 0, .int 0, .null, .int 0, .null, .int 0, .int 0, .int 0, .int 0, .null, .null])), (q_17, .inr (12, [.ref q_18, .ref q_19, .ref q_20, .int 0, .int 0, .ref q_21, .int 0])), (q_21, .inr (18, [.int 0, .ref sx_ed, .int 0])), (q_31, .inl (cA_32, 1002, .inl (fun _ => 0)))] H := hP
  have hD : va_D A [(h0, .inr (16, [.ref q_1, .ref q_12, .ref q_17, .ref q_22, .ref q_24, .ref q_26, .ref q_28, .ref q_29, .ref q_31, .null, .null, .int 0, .null, .null, .null, .null, .null, .null, .null, .null, .null, .null, .null, .int 0, .null, .null, .null, .int 0, .int 0, .int 0, .int 0, .int 0, .null, .int 0, .null, .int 0, .int 0, .int 0, .int 0, .null, .null])), (q_17, .inr (12, [.ref q_18, .ref q_19, .ref q_20, .int 0, .int 0, .ref q_21, .int 0])), (q_21, .inr (18, [.int 0, .ref sx_ed, .int 0])), (q_31, .inl (cA_32, 1002, .inl (fun _ => 0)))] := hD
  have hP := hP.sub (ws' := [(h0, .inr (16, [.ref q_1, .ref q_12, .ref q_17, .ref q_22, .ref q_24, .ref q_26, .ref q_28, .ref q_29, .ref q_31, .null, .null, .int 0, .null, .null, .null, .null, .null, .null, .null, .null, .null, .null, .null, .int 0, .null, .null, .null, .int 0, .int 0, .int 0, .int 0, .int 0, .null, .int 0, .null, .int 0, .int 0, .int 0, .int 0, .null, .null])), (q_17, .inr (12, [.ref q_18, .ref q_19, .ref q_20, .int 0, .int 0, .ref q_21, .int 0])), (q_21, .inr (18, [.int 0, .ref sx_ed, .int 0]))]) [0, 1, 2] rfl
  have hD := hD.sub (ws' := [(h0, .inr (16, [.ref q_1, .ref q_12, .ref q_17, .ref q_22, .ref q_24, .ref q_26, .ref q_28, .ref q_29, .ref q_31, .null, .null, .int 0, .null, .null, .null, .null, .null, .null, .null, .null, .null, .null, .null, .int 0, .null, .null, .null, .int 0, .int 0, .int 0, .int 0, .int 0, .null, .int 0, .null, .int 0, .int 0, .int 0, .int 0, .null, .null])), (q_17, .inr (12, [.ref q_18, .ref q_19, .ref q_20, .int 0, .int 0, .ref q_21, .int 0])), (q_21, .inr (18, [.int 0, .ref sx_ed, .int 0]))]) [0, 1, 2] (by decide) rfl
  have hK := hK.sub (tys' := []) [] rfl
  refine lv_aload_n hx hb dX19_init_84 rfl (lv_at hl 0 rfl) ?_
  refine lv_iconst (v := 0) hx hb dX19_init_85 (by decide) ?_
  refine va_newa (ty := .boolean) (n := 0) (N' := 0) (a0 := (0, .inl (fun _ => 0))) hx hb (ow (k := 16) rfl) rfl hK hP hD hS hA (fun _ => rfl) (by decide) (by decide) (by decide) (Nat.le_of_ble_eq_true rfl) (Nat.le_of_ble_eq_true rfl) dX19_init_86 (fun q_33 cA_34 H hK hP hD hS => ?_)
  have hP : va_P (dC, dI) vwP [(h0, .inr (16, [.ref q_1, .ref q_12, .ref q_17, .ref q_22, .ref q_24, .ref q_26, .ref q_28, .ref q_29, .ref q_31, .null, .null, .int 0, .null, .null, .null, .null, .null, .null, .null, .null, .null, .null, .null, .int 0, .null, .null, .null, .int 0, .int 0, .int 0, .int 0, .int 0, .null, .int 0, .null, .int 0, .int 0, .int 0, .int 0, .null, .null])), (q_17, .inr (12, [.ref q_18, .ref q_19, .ref q_20, .int 0, .int 0, .ref q_21, .int 0])), (q_21, .inr (18, [.int 0, .ref sx_ed, .int 0])), (q_33, .inl (cA_34, 0, .inl (fun _ => 0)))] H := hP
  have hD : va_D A [(h0, .inr (16, [.ref q_1, .ref q_12, .ref q_17, .ref q_22, .ref q_24, .ref q_26, .ref q_28, .ref q_29, .ref q_31, .null, .null, .int 0, .null, .null, .null, .null, .null, .null, .null, .null, .null, .null, .null, .int 0, .null, .null, .null, .int 0, .int 0, .int 0, .int 0, .int 0, .null, .int 0, .null, .int 0, .int 0, .int 0, .int 0, .null, .null])), (q_17, .inr (12, [.ref q_18, .ref q_19, .ref q_20, .int 0, .int 0, .ref q_21, .int 0])), (q_21, .inr (18, [.int 0, .ref sx_ed, .int 0])), (q_33, .inl (cA_34, 0, .inl (fun _ => 0)))] := hD
  have hK : va_K (dC, dI) vwP [(cA_34, .boolean)] s := hK
  refine W.widen (k := 28) (n := 4059) (Nat.le_of_ble_eq_true rfl) (Nat.le_of_ble_eq_true rfl) ?_
  refine va_put (D := (dC, dI)) (ci := 16) (v := .ref q_33) (ty := .array .boolean) (C := RX19) (T := TX19) (N := 41) hx hb hts mem_X19_init_2 tyX19 tyX19_ok nmX19 hown hK hP hD hS 0 rfl rfl 9 (by decide) (ow (k := 23) rfl) (fun _ h9 => h9) rfl (by decide +kernel) rfl rfl (Nat.le_of_ble_eq_true rfl) dX19_init_88 (fun H locs hP hD hS => ?_)
  have hP : va_P (dC, dI) vwP [(h0, .inr (16, [.ref q_1, .ref q_12, .ref q_17, .ref q_22, .ref q_24, .ref q_26, .ref q_28, .ref q_29, .ref q_31, .ref q_33, .null, .int 0, .null, .null, .null, .null, .null, .null, .null, .null, .null, .null, .null, .int 0, .null, .null, .null, .int 0, .int 0, .int 0, .int 0, .int 0, .null, .int 0, .null, .int 0, .int 0, .int 0, .int 0, .null, .null])), (q_17, .inr (12, [.ref q_18, .ref q_19, .ref q_20, .int 0, .int 0, .ref q_21, .int 0])), (q_21, .inr (18, [.int 0, .ref sx_ed, .int 0])), (q_33, .inl (cA_34, 0, .inl (fun _ => 0)))] H := hP
  have hD : va_D A [(h0, .inr (16, [.ref q_1, .ref q_12, .ref q_17, .ref q_22, .ref q_24, .ref q_26, .ref q_28, .ref q_29, .ref q_31, .ref q_33, .null, .int 0, .null, .null, .null, .null, .null, .null, .null, .null, .null, .null, .null, .int 0, .null, .null, .null, .int 0, .int 0, .int 0, .int 0, .int 0, .null, .int 0, .null, .int 0, .int 0, .int 0, .int 0, .null, .null])), (q_17, .inr (12, [.ref q_18, .ref q_19, .ref q_20, .int 0, .int 0, .ref q_21, .int 0])), (q_21, .inr (18, [.int 0, .ref sx_ed, .int 0])), (q_33, .inl (cA_34, 0, .inl (fun _ => 0)))] := hD
  have hP := hP.sub (ws' := [(h0, .inr (16, [.ref q_1, .ref q_12, .ref q_17, .ref q_22, .ref q_24, .ref q_26, .ref q_28, .ref q_29, .ref q_31, .ref q_33, .null, .int 0, .null, .null, .null, .null, .null, .null, .null, .null, .null, .null, .null, .int 0, .null, .null, .null, .int 0, .int 0, .int 0, .int 0, .int 0, .null, .int 0, .null, .int 0, .int 0, .int 0, .int 0, .null, .null])), (q_17, .inr (12, [.ref q_18, .ref q_19, .ref q_20, .int 0, .int 0, .ref q_21, .int 0])), (q_21, .inr (18, [.int 0, .ref sx_ed, .int 0]))]) [0, 1, 2] rfl
  have hD := hD.sub (ws' := [(h0, .inr (16, [.ref q_1, .ref q_12, .ref q_17, .ref q_22, .ref q_24, .ref q_26, .ref q_28, .ref q_29, .ref q_31, .ref q_33, .null, .int 0, .null, .null, .null, .null, .null, .null, .null, .null, .null, .null, .null, .int 0, .null, .null, .null, .int 0, .int 0, .int 0, .int 0, .int 0, .null, .int 0, .null, .int 0, .int 0, .int 0, .int 0, .null, .null])), (q_17, .inr (12, [.ref q_18, .ref q_19, .ref q_20, .int 0, .int 0, .ref q_21, .int 0])), (q_21, .inr (18, [.int 0, .ref sx_ed, .int 0]))]) [0, 1, 2] (by decide) rfl
  have hK := hK.sub (tys' := []) [] rfl
  refine lv_aload_n hx hb dX19_init_91 rfl (lv_at hl 0 rfl) ?_
  refine lv_iconst (v := 0) hx hb dX19_init_92 (by decide) ?_
  refine va_newa (ty := .boolean) (n := 0) (N' := 0) (a0 := (0, .inl (fun _ => 0))) hx hb (ow (k := 16) rfl) rfl hK hP hD hS hA (fun _ => rfl) (by decide) (by decide) (by decide) (Nat.le_of_ble_eq_true rfl) (Nat.le_of_ble_eq_true rfl) dX19_init_93 (fun q_35 cA_36 H hK hP hD hS => ?_)
  have hP : va_P (dC, dI) vwP [(h0, .inr (16, [.ref q_1, .ref q_12, .ref q_17, .ref q_22, .ref q_24, .ref q_26, .ref q_28, .ref q_29, .ref q_31, .ref q_33, .null, .int 0, .null, .null, .null, .null, .null, .null, .null, .null, .null, .null, .null, .int 0, .null, .null, .null, .int 0, .int 0, .int 0, .int 0, .int 0, .null, .int 0, .null, .int 0, .int 0, .int 0, .int 0, .null, .null])), (q_17, .inr (12, [.ref q_18, .ref q_19, .ref q_20, .int 0, .int 0, .ref q_21, .int 0])), (q_21, .inr (18, [.int 0, .ref sx_ed, .int 0])), (q_35, .inl (cA_36, 0, .inl (fun _ => 0)))] H := hP
  have hD : va_D A [(h0, .inr (16, [.ref q_1, .ref q_12, .ref q_17, .ref q_22, .ref q_24, .ref q_26, .ref q_28, .ref q_29, .ref q_31, .ref q_33, .null, .int 0, .null, .null, .null, .null, .null, .null, .null, .null, .null, .null, .null, .int 0, .null, .null, .null, .int 0, .int 0, .int 0, .int 0, .int 0, .null, .int 0, .null, .int 0, .int 0, .int 0, .int 0, .null, .null])), (q_17, .inr (12, [.ref q_18, .ref q_19, .ref q_20, .int 0, .int 0, .ref q_21, .int 0])), (q_21, .inr (18, [.int 0, .ref sx_ed, .int 0])), (q_35, .inl (cA_36, 0, .inl (fun _ => 0)))] := hD
  have hK : va_K (dC, dI) vwP [(cA_36, .boolean)] s := hK
  refine W.widen (k := 29) (n := 4059) (Nat.le_of_ble_eq_true rfl) (Nat.le_of_ble_eq_true rfl) ?_
  refine va_put (D := (dC, dI)) (ci := 16) (v := .ref q_35) (ty := .array .boolean) (C := RX19) (T := TX19) (N := 41) hx hb hts mem_X19_init_2 tyX19 tyX19_ok nmX19 hown hK hP hD hS 0 rfl rfl 10 (by decide) (ow (k := 24) rfl) (fun _ h9 => h9) rfl (by decide +kernel) rfl rfl (Nat.le_of_ble_eq_true rfl) dX19_init_95 (fun H locs hP hD hS => ?_)
  have hP : va_P (dC, dI) vwP [(h0, .inr (16, [.ref q_1, .ref q_12, .ref q_17, .ref q_22, .ref q_24, .ref q_26, .ref q_28, .ref q_29, .ref q_31, .ref q_33, .ref q_35, .int 0, .null, .null, .null, .null, .null, .null, .null, .null, .null, .null, .null, .int 0, .null, .null, .null, .int 0, .int 0, .int 0, .int 0, .int 0, .null, .int 0, .null, .int 0, .int 0, .int 0, .int 0, .null, .null])), (q_17, .inr (12, [.ref q_18, .ref q_19, .ref q_20, .int 0, .int 0, .ref q_21, .int 0])), (q_21, .inr (18, [.int 0, .ref sx_ed, .int 0])), (q_35, .inl (cA_36, 0, .inl (fun _ => 0)))] H := hP
  have hD : va_D A [(h0, .inr (16, [.ref q_1, .ref q_12, .ref q_17, .ref q_22, .ref q_24, .ref q_26, .ref q_28, .ref q_29, .ref q_31, .ref q_33, .ref q_35, .int 0, .null, .null, .null, .null, .null, .null, .null, .null, .null, .null, .null, .int 0, .null, .null, .null, .int 0, .int 0, .int 0, .int 0, .int 0, .null, .int 0, .null, .int 0, .int 0, .int 0, .int 0, .null, .null])), (q_17, .inr (12, [.ref q_18, .ref q_19, .ref q_20, .int 0, .int 0, .ref q_21, .int 0])), (q_21, .inr (18, [.int 0, .ref sx_ed, .int 0])), (q_35, .inl (cA_36, 0, .inl (fun _ => 0)))] := hD
  have hP := hP.sub (ws' := [(h0, .inr (16, [.ref q_1, .ref q_12, .ref q_17, .ref q_22, .ref q_24, .ref q_26, .ref q_28, .ref q_29, .ref q_31, .ref q_33, .ref q_35, .int 0, .null, .null, .null, .null, .null, .null, .null, .null, .null, .null, .null, .int 0, .null, .null, .null, .int 0, .int 0, .int 0, .int 0, .int 0, .null, .int 0, .null, .int 0, .int 0, .int 0, .int 0, .null, .null])), (q_17, .inr (12, [.ref q_18, .ref q_19, .ref q_20, .int 0, .int 0, .ref q_21, .int 0])), (q_21, .inr (18, [.int 0, .ref sx_ed, .int 0]))]) [0, 1, 2] rfl
  have hD := hD.sub (ws' := [(h0, .inr (16, [.ref q_1, .ref q_12, .ref q_17, .ref q_22, .ref q_24, .ref q_26, .ref q_28, .ref q_29, .ref q_31, .ref q_33, .ref q_35, .int 0, .null, .null, .null, .null, .null, .null, .null, .null, .null, .null, .null, .int 0, .null, .null, .null, .int 0, .int 0, .int 0, .int 0, .int 0, .null, .int 0, .null, .int 0, .int 0, .int 0, .int 0, .null, .null])), (q_17, .inr (12, [.ref q_18, .ref q_19, .ref q_20, .int 0, .int 0, .ref q_21, .int 0])), (q_21, .inr (18, [.int 0, .ref sx_ed, .int 0]))]) [0, 1, 2] (by decide) rfl
  have hK := hK.sub (tys' := []) [] rfl
  refine lv_aload_n hx hb dX19_init_98 rfl (lv_at hl 0 rfl) ?_
  refine lv_sipush (v := 1002) hx hb dX19_init_99 (by decide) ?_
  refine va_newa (ty := .boolean) (n := 1002) (N' := 1002) (a0 := (1002, .inl (fun _ => 0))) hx hb (ow (k := 16) rfl) rfl hK hP hD hS hA (fun _ => rfl) (by decide) (by decide) (by decide) (Nat.le_of_ble_eq_true rfl) (Nat.le_of_ble_eq_true rfl) dX19_init_102 (fun q_37 cA_38 H hK hP hD hS => ?_)
  have hP : va_P (dC, dI) vwP [(h0, .inr (16, [.ref q_1, .ref q_12, .ref q_17, .ref q_22, .ref q_24, .ref q_26, .ref q_28, .ref q_29, .ref q_31, .ref q_33, .ref q_35, .int 0, .null, .null, .null, .null, .null, .null, .null, .null, .null, .null, .null, .int 0, .null, .null, .null, .int 0, .int 0, .int 0, .int 0, .int 0, .null, .int 0, .null, .int 0, .int 0, .int 0, .int 0, .null, .null])), (q_17, .inr (12, [.ref q_18, .ref q_19, .ref q_20, .int 0, .int 0, .ref q_21, .int 0])), (q_21, .inr (18, [.int 0, .ref sx_ed, .int 0])), (q_37, .inl (cA_38, 1002, .inl (fun _ => 0)))] H := hP
  have hD : va_D A [(h0, .inr (16, [.ref q_1, .ref q_12, .ref q_17, .ref q_22, .ref q_24, .ref q_26, .ref q_28, .ref q_29, .ref q_31, .ref q_33, .ref q_35, .int 0, .null, .null, .null, .null, .null, .null, .null, .null, .null, .null, .null, .int 0, .null, .null, .null, .int 0, .int 0, .int 0, .int 0, .int 0, .null, .int 0, .null, .int 0, .int 0, .int 0, .int 0, .null, .null])), (q_17, .inr (12, [.ref q_18, .ref q_19, .ref q_20, .int 0, .int 0, .ref q_21, .int 0])), (q_21, .inr (18, [.int 0, .ref sx_ed, .int 0])), (q_37, .inl (cA_38, 1002, .inl (fun _ => 0)))] := hD
  have hK : va_K (dC, dI) vwP [(cA_38, .boolean)] s := hK
  refine W.widen (k := 30) (n := 5061) (Nat.le_of_ble_eq_true rfl) (Nat.le_of_ble_eq_true rfl) ?_
  refine va_putF (D := (dC, dI)) (ci := 16) (v := .ref q_37) (ty := .array .boolean) (C := RX19) (T := TX19) (N := 41) hx hb hts mem_X19_init_2 tyX19 tyX19_ok nmX19 hown hK hP hD hS 0 rfl rfl 12 (by decide) (ow (k := 25) rfl) (fun _ h9 => h9) rfl hin rfl (by decide +kernel) rfl rfl (Nat.le_of_ble_eq_true rfl) dX19_init_104 (fun H locs hP hD hS => ?_)
  have hP : va_P (dC, dI) vwP [(h0, .inr (16, [.ref q_1, .ref q_12, .ref q_17, .ref q_22, .ref q_24, .ref q_26, .ref q_28, .ref q_29, .ref q_31, .ref q_33, .ref q_35, .int 0, .ref q_37, .null, .null, .null, .null, .null, .null, .null, .null, .null, .null, .int 0, .null, .null, .null, .int 0, .int 0, .int 0, .int 0, .int 0, .null, .int 0, .null, .int 0, .int 0, .int 0, .int 0, .null, .null])), (q_17, .inr (12, [.ref q_18, .ref q_19, .ref q_20, .int 0, .int 0, .ref q_21, .int 0])), (q_21, .inr (18, [.int 0, .ref sx_ed, .int 0])), (q_37, .inl (cA_38, 1002, .inl (fun _ => 0)))] H := hP
  have hD : va_D A [(h0, .inr (16, [.ref q_1, .ref q_12, .ref q_17, .ref q_22, .ref q_24, .ref q_26, .ref q_28, .ref q_29, .ref q_31, .ref q_33, .ref q_35, .int 0, .ref q_37, .null, .null, .null, .null, .null, .null, .null, .null, .null, .null, .int 0, .null, .null, .null, .int 0, .int 0, .int 0, .int 0, .int 0, .null, .int 0, .null, .int 0, .int 0, .int 0, .int 0, .null, .null])), (q_17, .inr (12, [.ref q_18, .ref q_19, .ref q_20, .int 0, .int 0, .ref q_21, .int 0])), (q_21, .inr (18, [.int 0, .ref sx_ed, .int 0])), (q_37, .inl (cA_38, 1002, .inl (fun _ => 0)))] := hD
  have hP := hP.sub (ws' := [(h0, .inr (16, [.ref q_1, .ref q_12, .ref q_17, .ref q_22, .ref q_24, .ref q_26, .ref q_28, .ref q_29, .ref q_31, .ref q_33, .ref q_35, .int 0, .ref q_37, .null, .null, .null, .null, .null, .null, .null, .null, .null, .null, .int 0, .null, .null, .null, .int 0, .int 0, .int 0, .int 0, .int 0, .null, .int 0, .null, .int 0, .int 0, .int 0, .int 0, .null, .null])), (q_17, .inr (12, [.ref q_18, .ref q_19, .ref q_20, .int 0, .int 0, .ref q_21, .int 0])), (q_21, .inr (18, [.int 0, .ref sx_ed, .int 0]))]) [0, 1, 2] rfl
  have hD := hD.sub (ws' := [(h0, .inr (16, [.ref q_1, .ref q_12, .ref q_17, .ref q_22, .ref q_24, .ref q_26, .ref q_28, .ref q_29, .ref q_31, .ref q_33, .ref q_35, .int 0, .ref q_37, .null, .null, .null, .null, .null, .null, .null, .null, .null, .null, .int 0, .null, .null, .null, .int 0, .int 0, .int 0, .int 0, .int 0, .null, .int 0, .null, .int 0, .int 0, .int 0, .int 0, .null, .null])), (q_17, .inr (12, [.ref q_18, .ref q_19, .ref q_20, .int 0, .int 0, .ref q_21, .int 0])), (q_21, .inr (18, [.int 0, .ref sx_ed, .int 0]))]) [0, 1, 2] (by decide) rfl
  have hK := hK.sub (tys' := []) [] rfl
  refine lv_aload_n hx hb dX19_init_107 rfl (lv_at hl 0 rfl) ?_
  refine lv_sipush (v := 1002) hx hb dX19_init_108 (by decide) ?_
  refine va_newa (ty := .boolean) (n := 1002) (N' := 1002) (a0 := (1002, .inl (fun _ => 0))) hx hb (ow (k := 16) rfl) rfl hK hP hD hS hA (fun _ => rfl) (by decide) (by decide) (by decide) (Nat.le_of_ble_eq_true rfl) (Nat.le_of_ble_eq_true rfl) dX19_init_111 (fun q_39 cA_40 H hK hP hD hS => ?_)
  have hP : va_P (dC, dI) vwP [(h0, .inr (16, [.ref q_1, .ref q_12, .ref q_17, .ref q_22, .ref q_24, .ref q_26, .ref q_28, .ref q_29, .ref q_31, .ref q_33, .ref q_35, .int 0, .ref q_37, .null, .null, .null, .null, .null, .null, .null, .null, .null, .null, .int 0, .null, .null, .null, .int 0, .int 0, .int 0, .int 0, .int 0, .null, .int 0, .null, .int 0, .int 0, .int 0, .int 0, .null, .null])), (q_17, .inr (12, [.ref q_18, .ref q_19, .ref q_20, .int 0, .int 0, .ref q_21, .int 0])), (q_21, .inr (18, [.int 0, .ref sx_ed, .int 0])), (q_39, .inl (cA_40, 1002, .inl (fun _ => 0)))] H := hP
  have hD : va_D A [(h0, .inr (16, [.ref q_1, .ref q_12, .ref q_17, .ref q_22, .ref q_24, .ref q_26, .ref q_28, .ref q_29, .ref q_31, .ref q_33, .ref q_35, .int 0, .ref q_37, .null, .null, .null, .null, .null, .null, .null, .null, .null, .null, .int 0, .null, .null, .null, .int 0, .int 0, .int 0, .int 0, .int 0, .null, .int 0, .null, .int 0, .int 0, .int 0, .int 0, .null, .null])), (q_17, .inr (12, [.ref q_18, .ref q_19, .ref q_20, .int 0, .int 0, .ref q_21, .int 0])), (q_21, .inr (18, [.int 0, .ref sx_ed, .int 0])), (q_39, .inl (cA_40, 1002, .inl (fun _ => 0)))] := hD
  have hK : va_K (dC, dI) vwP [(cA_40, .boolean)] s := hK
  refine W.widen (k := 31) (n := 6063) (Nat.le_of_ble_eq_true rfl) (Nat.le_of_ble_eq_true rfl) ?_
  refine va_putF (D := (dC, dI)) (ci := 16) (v := .ref q_39) (ty := .array .boolean) (C := RX19) (T := TX19) (N := 41) hx hb hts mem_X19_init_2 tyX19 tyX19_ok nmX19 hown hK hP hD hS 0 rfl rfl 13 (by decide) (ow (k := 26) rfl) (fun _ h9 => h9) rfl hin rfl (by decide +kernel) rfl rfl (Nat.le_of_ble_eq_true rfl) dX19_init_113 (fun H locs hP hD hS => ?_)
  have hP : va_P (dC, dI) vwP [(h0, .inr (16, [.ref q_1, .ref q_12, .ref q_17, .ref q_22, .ref q_24, .ref q_26, .ref q_28, .ref q_29, .ref q_31, .ref q_33, .ref q_35, .int 0, .ref q_37, .ref q_39, .null, .null, .null, .null, .null, .null, .null, .null, .null, .int 0, .null, .null, .null, .int 0, .int 0, .int 0, .int 0, .int 0, .null, .int 0, .null, .int 0, .int 0, .int 0, .int 0, .null, .null])), (q_17, .inr (12, [.ref q_18, .ref q_19, .ref q_20, .int 0, .int 0, .ref q_21, .int 0])), (q_21, .inr (18, [.int 0, .ref sx_ed, .int 0])), (q_39, .inl (cA_40, 1002, .inl (fun _ => 0)))] H := hP
  have hD : va_D A [(h0, .inr (16, [.ref q_1, .ref q_12, .ref q_17, .ref q_22, .ref q_24, .ref q_26, .ref q_28, .ref q_29, .ref q_31, .ref q_33, .ref q_35, .int 0, .ref q_37, .ref q_39, .null, .null, .null, .null, .null, .null, .null, .null, .null, .int 0, .null, .null, .null, .int 0, .int 0, .int 0, .int 0, .int 0, .null, .int 0, .null, .int 0, .int 0, .int 0, .int 0, .null, .null])), (q_17, .inr (12, [.ref q_18, .ref q_19, .ref q_20, .int 0, .int 0, .ref q_21, .int 0])), (q_21, .inr (18, [.int 0, .ref sx_ed, .int 0])), (q_39, .inl (cA_40, 1002, .inl (fun _ => 0)))] := hD
  have hP := hP.sub (ws' := [(h0, .inr (16, [.ref q_1, .ref q_12, .ref q_17, .ref q_22, .ref q_24, .ref q_26, .ref q_28, .ref q_29, .ref q_31, .ref q_33, .ref q_35, .int 0, .ref q_37, .ref q_39, .null, .null, .null, .null, .null, .null, .null, .null, .null, .int 0, .null, .null, .null, .int 0, .int 0, .int 0, .int 0, .int 0, .null, .int 0, .null, .int 0, .int 0, .int 0, .int 0, .null, .null])), (q_17, .inr (12, [.ref q_18, .ref q_19, .ref q_20, .int 0, .int 0, .ref q_21, .int 0])), (q_21, .inr (18, [.int 0, .ref sx_ed, .int 0]))]) [0, 1, 2] rfl
  have hD := hD.sub (ws' := [(h0, .inr (16, [.ref q_1, .ref q_12, .ref q_17, .ref q_22, .ref q_24, .ref q_26, .ref q_28, .ref q_29, .ref q_31, .ref q_33, .ref q_35, .int 0, .ref q_37, .ref q_39, .null, .null, .null, .null, .null, .null, .null, .null, .null, .int 0, .null, .null, .null, .int 0, .int 0, .int 0, .int 0, .int 0, .null, .int 0, .null, .int 0, .int 0, .int 0, .int 0, .null, .null])), (q_17, .inr (12, [.ref q_18, .ref q_19, .ref q_20, .int 0, .int 0, .ref q_21, .int 0])), (q_21, .inr (18, [.int 0, .ref sx_ed, .int 0]))]) [0, 1, 2] (by decide) rfl
  have hK := hK.sub (tys' := []) [] rfl
  refine lv_aload_n hx hb dX19_init_116 rfl (lv_at hl 0 rfl) ?_
  refine lv_sipush (v := 1002) hx hb dX19_init_117 (by decide) ?_
  refine va_newa (ty := .int) (n := 1002) (N' := 1002) (a0 := (1002, .inl (fun _ => 0))) hx hb (ow (k := 14) rfl) rfl hK hP hD hS hA (fun _ => rfl) (by decide) (by decide) (by decide) (Nat.le_of_ble_eq_true rfl) (Nat.le_of_ble_eq_true rfl) dX19_init_120 (fun q_41 cA_42 H hK hP hD hS => ?_)
  have hP : va_P (dC, dI) vwP [(h0, .inr (16, [.ref q_1, .ref q_12, .ref q_17, .ref q_22, .ref q_24, .ref q_26, .ref q_28, .ref q_29, .ref q_31, .ref q_33, .ref q_35, .int 0, .ref q_37, .ref q_39, .null, .null, .null, .null, .null, .null, .null, .null, .null, .int 0, .null, .null, .null, .int 0, .int 0, .int 0, .int 0, .int 0, .null, .int 0, .null, .int 0, .int 0, .int 0, .int 0, .null, .null])), (q_17, .inr (12, [.ref q_18, .ref q_19, .ref q_20, .int 0, .int 0, .ref q_21, .int 0])), (q_21, .inr (18, [.int 0, .ref sx_ed, .int 0])), (q_41, .inl (cA_42, 1002, .inl (fun _ => 0)))] H := hP
  have hD : va_D A [(h0, .inr (16, [.ref q_1, .ref q_12, .ref q_17, .ref q_22, .ref q_24, .ref q_26, .ref q_28, .ref q_29, .ref q_31, .ref q_33, .ref q_35, .int 0, .ref q_37, .ref q_39, .null, .null, .null, .null, .null, .null, .null, .null, .null, .int 0, .null, .null, .null, .int 0, .int 0, .int 0, .int 0, .int 0, .null, .int 0, .null, .int 0, .int 0, .int 0, .int 0, .null, .null])), (q_17, .inr (12, [.ref q_18, .ref q_19, .ref q_20, .int 0, .int 0, .ref q_21, .int 0])), (q_21, .inr (18, [.int 0, .ref sx_ed, .int 0])), (q_41, .inl (cA_42, 1002, .inl (fun _ => 0)))] := hD
  have hK : va_K (dC, dI) vwP [(cA_42, .int)] s := hK
  refine W.widen (k := 32) (n := 7065) (Nat.le_of_ble_eq_true rfl) (Nat.le_of_ble_eq_true rfl) ?_
  refine va_putF (D := (dC, dI)) (ci := 16) (v := .ref q_41) (ty := .array .int) (C := RX19) (T := TX19) (N := 41) hx hb hts mem_X19_init_2 tyX19 tyX19_ok nmX19 hown hK hP hD hS 0 rfl rfl 14 (by decide) (ow (k := 27) rfl) (fun _ h9 => h9) rfl hin rfl (by decide +kernel) rfl rfl (Nat.le_of_ble_eq_true rfl) dX19_init_122 (fun H locs hP hD hS => ?_)
  have hP : va_P (dC, dI) vwP [(h0, .inr (16, [.ref q_1, .ref q_12, .ref q_17, .ref q_22, .ref q_24, .ref q_26, .ref q_28, .ref q_29, .ref q_31, .ref q_33, .ref q_35, .int 0, .ref q_37, .ref q_39, .ref q_41, .null, .null, .null, .null, .null, .null, .null, .null, .int 0, .null, .null, .null, .int 0, .int 0, .int 0, .int 0, .int 0, .null, .int 0, .null, .int 0, .int 0, .int 0, .int 0, .null, .null])), (q_17, .inr (12, [.ref q_18, .ref q_19, .ref q_20, .int 0, .int 0, .ref q_21, .int 0])), (q_21, .inr (18, [.int 0, .ref sx_ed, .int 0])), (q_41, .inl (cA_42, 1002, .inl (fun _ => 0)))] H := hP
  have hD : va_D A [(h0, .inr (16, [.ref q_1, .ref q_12, .ref q_17, .ref q_22, .ref q_24, .ref q_26, .ref q_28, .ref q_29, .ref q_31, .ref q_33, .ref q_35, .int 0, .ref q_37, .ref q_39, .ref q_41, .null, .null, .null, .null, .null, .null, .null, .null, .int 0, .null, .null, .null, .int 0, .int 0, .int 0, .int 0, .int 0, .null, .int 0, .null, .int 0, .int 0, .int 0, .int 0, .null, .null])), (q_17, .inr (12, [.ref q_18, .ref q_19, .ref q_20, .int 0, .int 0, .ref q_21, .int 0])), (q_21, .inr (18, [.int 0, .ref sx_ed, .int 0])), (q_41, .inl (cA_42, 1002, .inl (fun _ => 0)))] := hD
  have hP := hP.sub (ws' := [(h0, .inr (16, [.ref q_1, .ref q_12, .ref q_17, .ref q_22, .ref q_24, .ref q_26, .ref q_28, .ref q_29, .ref q_31, .ref q_33, .ref q_35, .int 0, .ref q_37, .ref q_39, .ref q_41, .null, .null, .null, .null, .null, .null, .null, .null, .int 0, .null, .null, .null, .int 0, .int 0, .int 0, .int 0, .int 0, .null, .int 0, .null, .int 0, .int 0, .int 0, .int 0, .null, .null])), (q_17, .inr (12, [.ref q_18, .ref q_19, .ref q_20, .int 0, .int 0, .ref q_21, .int 0])), (q_21, .inr (18, [.int 0, .ref sx_ed, .int 0]))]) [0, 1, 2] rfl
  have hD := hD.sub (ws' := [(h0, .inr (16, [.ref q_1, .ref q_12, .ref q_17, .ref q_22, .ref q_24, .ref q_26, .ref q_28, .ref q_29, .ref q_31, .ref q_33, .ref q_35, .int 0, .ref q_37, .ref q_39, .ref q_41, .null, .null, .null, .null, .null, .null, .null, .null, .int 0, .null, .null, .null, .int 0, .int 0, .int 0, .int 0, .int 0, .null, .int 0, .null, .int 0, .int 0, .int 0, .int 0, .null, .null])), (q_17, .inr (12, [.ref q_18, .ref q_19, .ref q_20, .int 0, .int 0, .ref q_21, .int 0])), (q_21, .inr (18, [.int 0, .ref sx_ed, .int 0]))]) [0, 1, 2] (by decide) rfl
  have hK := hK.sub (tys' := []) [] rfl
  refine lv_aload_n hx hb dX19_init_125 rfl (lv_at hl 0 rfl) ?_
  refine lv_sipush (v := 1002) hx hb dX19_init_126 (by decide) ?_
  refine va_newa (ty := .boolean) (n := 1002) (N' := 1002) (a0 := (1002, .inl (fun _ => 0))) hx hb (ow (k := 16) rfl) rfl hK hP hD hS hA (fun _ => rfl) (by decide) (by decide) (by decide) (Nat.le_of_ble_eq_true rfl) (Nat.le_of_ble_eq_true rfl) dX19_init_129 (fun q_43 cA_44 H hK hP hD hS => ?_)
  have hP : va_P (dC, dI) vwP [(h0, .inr (16, [.ref q_1, .ref q_12, .ref q_17, .ref q_22, .ref q_24, .ref q_26, .ref q_28, .ref q_29, .ref q_31, .ref q_33, .ref q_35, .int 0, .ref q_37, .ref q_39, .ref q_41, .null, .null, .null, .null, .null, .null, .null, .null, .int 0, .null, .null, .null, .int 0, .int 0, .int 0, .int 0, .int 0, .null, .int 0, .null, .int 0, .int 0, .int 0, .int 0, .null, .null])), (q_17, .inr (12, [.ref q_18, .ref q_19, .ref q_20, .int 0, .int 0, .ref q_21, .int 0])), (q_21, .inr (18, [.int 0, .ref sx_ed, .int 0])), (q_43, .inl (cA_44, 1002, .inl (fun _ => 0)))] H := hP
  have hD : va_D A [(h0, .inr (16, [.ref q_1, .ref q_12, .ref q_17, .ref q_22, .ref q_24, .ref q_26, .ref q_28, .ref q_29, .ref q_31, .ref q_33, .ref q_35, .int 0, .ref q_37, .ref q_39, .ref q_41, .null, .null, .null, .null, .null, .null, .null, .null, .int 0, .null, .null, .null, .int 0, .int 0, .int 0, .int 0, .int 0, .null, .int 0, .null, .int 0, .int 0, .int 0, .int 0, .null, .null])), (q_17, .inr (12, [.ref q_18, .ref q_19, .ref q_20, .int 0, .int 0, .ref q_21, .int 0])), (q_21, .inr (18, [.int 0, .ref sx_ed, .int 0])), (q_43, .inl (cA_44, 1002, .inl (fun _ => 0)))] := hD
  have hK : va_K (dC, dI) vwP [(cA_44, .boolean)] s := hK
  refine W.widen (k := 33) (n := 8067) (Nat.le_of_ble_eq_true rfl) (Nat.le_of_ble_eq_true rfl) ?_
  refine va_putF (D := (dC, dI)) (ci := 16) (v := .ref q_43) (ty := .array .boolean) (C := RX19) (T := TX19) (N := 41) hx hb hts mem_X19_init_2 tyX19 tyX19_ok nmX19 hown hK hP hD hS 0 rfl rfl 15 (by decide) (ow (k := 28) rfl) (fun _ h9 => h9) rfl hin rfl (by decide +kernel) rfl rfl (Nat.le_of_ble_eq_true rfl) dX19_init_131 (fun H locs hP hD hS => ?_)
  have hP : va_P (dC, dI) vwP [(h0, .inr (16, [.ref q_1, .ref q_12, .ref q_17, .ref q_22, .ref q_24, .ref q_26, .ref q_28, .ref q_29, .ref q_31, .ref q_33, .ref q_35, .int 0, .ref q_37, .ref q_39, .ref q_41, .ref q_43, .null, .null, .null, .null, .null, .null, .null, .int 0, .null, .null, .null, .int 0, .int 0, .int 0, .int 0, .int 0, .null, .int 0, .null, .int 0, .int 0, .int 0, .int 0, .null, .null])), (q_17, .inr (12, [.ref q_18, .ref q_19, .ref q_20, .int 0, .int 0, .ref q_21, .int 0])), (q_21, .inr (18, [.int 0, .ref sx_ed, .int 0])), (q_43, .inl (cA_44, 1002, .inl (fun _ => 0)))] H := hP
  have hD : va_D A [(h0, .inr (16, [.ref q_1, .ref q_12, .ref q_17, .ref q_22, .ref q_24, .ref q_26, .ref q_28, .ref q_29, .ref q_31, .ref q_33, .ref q_35, .int 0, .ref q_37, .ref q_39, .ref q_41, .ref q_43, .null, .null, .null, .null, .null, .null, .null, .int 0, .null, .null, .null, .int 0, .int 0, .int 0, .int 0, .int 0, .null, .int 0, .null, .int 0, .int 0, .int 0, .int 0, .null, .null])), (q_17, .inr (12, [.ref q_18, .ref q_19, .ref q_20, .int 0, .int 0, .ref q_21, .int 0])), (q_21, .inr (18, [.int 0, .ref sx_ed, .int 0])), (q_43, .inl (cA_44, 1002, .inl (fun _ => 0)))] := hD
  have hP := hP.sub (ws' := [(h0, .inr (16, [.ref q_1, .ref q_12, .ref q_17, .ref q_22, .ref q_24, .ref q_26, .ref q_28, .ref q_29, .ref q_31, .ref q_33, .ref q_35, .int 0, .ref q_37, .ref q_39, .ref q_41, .ref q_43, .null, .null, .null, .null, .null, .null, .null, .int 0, .null, .null, .null, .int 0, .int 0, .int 0, .int 0, .int 0, .null, .int 0, .null, .int 0, .int 0, .int 0, .int 0, .null, .null])), (q_17, .inr (12, [.ref q_18, .ref q_19, .ref q_20, .int 0, .int 0, .ref q_21, .int 0])), (q_21, .inr (18, [.int 0, .ref sx_ed, .int 0]))]) [0, 1, 2] rfl
  have hD := hD.sub (ws' := [(h0, .inr (16, [.ref q_1, .ref q_12, .ref q_17, .ref q_22, .ref q_24, .ref q_26, .ref q_28, .ref q_29, .ref q_31, .ref q_33, .ref q_35, .int 0, .ref q_37, .ref q_39, .ref q_41, .ref q_43, .null, .null, .null, .null, .null, .null, .null, .int 0, .null, .null, .null, .int 0, .int 0, .int 0, .int 0, .int 0, .null, .int 0, .null, .int 0, .int 0, .int 0, .int 0, .null, .null])), (q_17, .inr (12, [.ref q_18, .ref q_19, .ref q_20, .int 0, .int 0, .ref q_21, .int 0])), (q_21, .inr (18, [.int 0, .ref sx_ed, .int 0]))]) [0, 1, 2] (by decide) rfl
  have hK := hK.sub (tys' := []) [] rfl
  refine lv_aload_n hx hb dX19_init_134 rfl (lv_at hl 0 rfl) ?_
  refine lv_iconst (v := 0) hx hb dX19_init_135 (by decide) ?_
  refine va_newa (ty := .boolean) (n := 0) (N' := 0) (a0 := (0, .inl (fun _ => 0))) hx hb (ow (k := 16) rfl) rfl hK hP hD hS hA (fun _ => rfl) (by decide) (by decide) (by decide) (Nat.le_of_ble_eq_true rfl) (Nat.le_of_ble_eq_true rfl) dX19_init_136 (fun q_45 cA_46 H hK hP hD hS => ?_)
  have hP : va_P (dC, dI) vwP [(h0, .inr (16, [.ref q_1, .ref q_12, .ref q_17, .ref q_22, .ref q_24, .ref q_26, .ref q_28, .ref q_29, .ref q_31, .ref q_33, .ref q_35, .int 0, .ref q_37, .ref q_39, .ref q_41, .ref q_43, .null, .null, .null, .null, .null, .null, .null, .int 0, .null, .null, .null, .int 0, .int 0, .int 0, .int 0, .int 0, .null, .int 0, .null, .int 0, .int 0, .int 0, .int 0, .null, .null])), (q_17, .inr (12, [.ref q_18, .ref q_19, .ref q_20, .int 0, .int 0, .ref q_21, .int 0])), (q_21, .inr (18, [.int 0, .ref sx_ed, .int 0])), (q_45, .inl (cA_46, 0, .inl (fun _ => 0)))] H := hP
  have hD : va_D A [(h0, .inr (16, [.ref q_1, .ref q_12, .ref q_17, .ref q_22, .ref q_24, .ref q_26, .ref q_28, .ref q_29, .ref q_31, .ref q_33, .ref q_35, .int 0, .ref q_37, .ref q_39, .ref q_41, .ref q_43, .null, .null, .null, .null, .null, .null, .null, .int 0, .null, .null, .null, .int 0, .int 0, .int 0, .int 0, .int 0, .null, .int 0, .null, .int 0, .int 0, .int 0, .int 0, .null, .null])), (q_17, .inr (12, [.ref q_18, .ref q_19, .ref q_20, .int 0, .int 0, .ref q_21, .int 0])), (q_21, .inr (18, [.int 0, .ref sx_ed, .int 0])), (q_45, .inl (cA_46, 0, .inl (fun _ => 0)))] := hD
  have hK : va_K (dC, dI) vwP [(cA_46, .boolean)] s := hK
  refine W.widen (k := 34) (n := 8067) (Nat.le_of_ble_eq_true rfl) (Nat.le_of_ble_eq_true rfl) ?_
  refine va_put (D := (dC, dI)) (ci := 16) (v := .ref q_45) (ty := .array .boolean) (C := RX19) (T := TX19) (N := 41) hx hb hts mem_X19_init_2 tyX19 tyX19_ok nmX19 hown hK hP hD hS 0 rfl rfl 16 (by decide) (ow (k := 29) rfl) (fun _ h9 => h9) rfl (by decide +kernel) rfl rfl (Nat.le_of_ble_eq_true rfl) dX19_init_138 (fun H locs hP hD hS => ?_)
  have hP : va_P (dC, dI) vwP [(h0, .inr (16, [.ref q_1, .ref q_12, .ref q_17, .ref q_22, .ref q_24, .ref q_26, .ref q_28, .ref q_29, .ref q_31, .ref q_33, .ref q_35, .int 0, .ref q_37, .ref q_39, .ref q_41, .ref q_43, .ref q_45, .null, .null, .null, .null, .null, .null, .int 0, .null, .null, .null, .int 0, .int 0, .int 0, .int 0, .int 0, .null, .int 0, .null, .int 0, .int 0, .int 0, .int 0, .null, .null])), (q_17, .inr (12, [.ref q_18, .ref q_19, .ref q_20, .int 0, .int 0, .ref q_21, .int 0])), (q_21, .inr (18, [.int 0, .ref sx_ed, .int 0])), (q_45, .inl (cA_46, 0, .inl (fun _ => 0)))] H := hP
  have hD : va_D A [(h0, .inr (16, [.ref q_1, .ref q_12, .ref q_17, .ref q_22, .ref q_24, .ref q_26, .ref q_28, .ref q_29, .ref q_31, .ref q_33, .ref q_35, .int 0, .ref q_37, .ref q_39, .ref q_41, .ref q_43, .ref q_45, .null, .null, .null, .null, .null, .null, .int 0, .null, .null, .null, .int 0, .int 0, .int 0, .int 0, .int 0, .null, .int 0, .null, .int 0, .int 0, .int 0, .int 0, .null, .null])), (q_17, .inr (12, [.ref q_18, .ref q_19, .ref q_20, .int 0, .int 0, .ref q_21, .int 0])), (q_21, .inr (18, [.int 0, .ref sx_ed, .int 0])), (q_45, .inl (cA_46, 0, .inl (fun _ => 0)))] := hD
  have hP := hP.sub (ws' := [(h0, .inr (16, [.ref q_1, .ref q_12, .ref q_17, .ref q_22, .ref q_24, .ref q_26, .ref q_28, .ref q_29, .ref q_31, .ref q_33, .ref q_35, .int 0, .ref q_37, .ref q_39, .ref q_41, .ref q_43, .ref q_45, .null, .null, .null, .null, .null, .null, .int 0, .null, .null, .null, .int 0, .int 0, .int 0, .int 0, .int 0, .null, .int 0, .null, .int 0, .int 0, .int 0, .int 0, .null, .null])), (q_17, .inr (12, [.ref q_18, .ref q_19, .ref q_20, .int 0, .int 0, .ref q_21, .int 0])), (q_21, .inr (18, [.int 0, .ref sx_ed, .int 0]))]) [0, 1, 2] rfl
  have hD := hD.sub (ws' := [(h0, .inr (16, [.ref q_1, .ref q_12, .ref q_17, .ref q_22, .ref q_24, .ref q_26, .ref q_28, .ref q_29, .ref q_31, .ref q_33, .ref q_35, .int 0, .ref q_37, .ref q_39, .ref q_41, .ref q_43, .ref q_45, .null, .null, .null, .null, .null, .null, .int 0, .null, .null, .null, .int 0, .int 0, .int 0, .int 0, .int 0, .null, .int 0, .null, .int 0, .int 0, .int 0, .int 0, .null, .null])), (q_17, .inr (12, [.ref q_18, .ref q_19, .ref q_20, .int 0, .int 0, .ref q_21, .int 0])), (q_21, .inr (18, [.int 0, .ref sx_ed, .int 0]))]) [0, 1, 2] (by decide) rfl
  have hK := hK.sub (tys' := []) [] rfl
  refine lv_aload_n hx hb dX19_init_141 rfl (lv_at hl 0 rfl) ?_
  refine lv_sipush (v := 1002) hx hb dX19_init_142 (by decide) ?_
  refine va_newa (ty := .boolean) (n := 1002) (N' := 1002) (a0 := (1002, .inl (fun _ => 0))) hx hb (ow (k := 16) rfl) rfl hK hP hD hS hA (fun _ => rfl) (by decide) (by decide) (by decide) (Nat.le_of_ble_eq_true rfl) (Nat.le_of_ble_eq_true rfl) dX19_init_145 (fun q_47 cA_48 H hK hP hD hS => ?_)
  have hP : va_P (dC, dI) vwP [(h0, .inr (16, [.ref q_1, .ref q_12, .ref q_17, .ref q_22, .ref q_24, .ref q_26, .ref q_28, .ref q_29, .ref q_31, .ref q_33, .ref q_35, .int 0, .ref q_37, .ref q_39, .ref q_41, .ref q_43, .ref q_45, .null, .null, .null, .null, .null, .null, .int 0, .null, .null, .null, .int 0, .int 0, .int 0, .int 0, .int 0, .null, .int 0, .null, .int 0, .int 0, .int 0, .int 0, .null, .null])), (q_17, .inr (12, [.ref q_18, .ref q_19, .ref q_20, .int 0, .int 0, .ref q_21, .int 0])), (q_21, .inr (18, [.int 0, .ref sx_ed, .int 0])), (q_47, .inl (cA_48, 1002, .inl (fun _ => 0)))] H := hP
  have hD : va_D A [(h0, .inr (16, [.ref q_1, .ref q_12, .ref q_17, .ref q_22, .ref q_24, .ref q_26, .ref q_28, .ref q_29, .ref q_31, .ref q_33, .ref q_35, .int 0, .ref q_37, .ref q_39, .ref q_41, .ref q_43, .ref q_45, .null, .null, .null, .null, .null, .null, .int 0, .null, .null, .null, .int 0, .int 0, .int 0, .int 0, .int 0, .null, .int 0, .null, .int 0, .int 0, .int 0, .int 0, .null, .null])), (q_17, .inr (12, [.ref q_18, .ref q_19, .ref q_20, .int 0, .int 0, .ref q_21, .int 0])), (q_21, .inr (18, [.int 0, .ref sx_ed, .int 0])), (q_47, .inl (cA_48, 1002, .inl (fun _ => 0)))] := hD
  have hK : va_K (dC, dI) vwP [(cA_48, .boolean)] s := hK
  refine W.widen (k := 35) (n := 9069) (Nat.le_of_ble_eq_true rfl) (Nat.le_of_ble_eq_true rfl) ?_
  refine va_putF (D := (dC, dI)) (ci := 16) (v := .ref q_47) (ty := .array .boolean) (C := RX19) (T := TX19) (N := 41) hx hb hts mem_X19_init_2 tyX19 tyX19_ok nmX19 hown hK hP hD hS 0 rfl rfl 17 (by decide) (ow (k := 30) rfl) (fun _ h9 => h9) rfl hin rfl (by decide +kernel) rfl rfl (Nat.le_of_ble_eq_true rfl) dX19_init_147 (fun H locs hP hD hS => ?_)
  have hP : va_P (dC, dI) vwP [(h0, .inr (16, [.ref q_1, .ref q_12, .ref q_17, .ref q_22, .ref q_24, .ref q_26, .ref q_28, .ref q_29, .ref q_31, .ref q_33, .ref q_35, .int 0, .ref q_37, .ref q_39, .ref q_41, .ref q_43, .ref q_45, .ref q_47, .null, .null, .null, .null, .null, .int 0, .null, .null, .null, .int 0, .int 0, .int 0, .int 0, .int 0, .null, .int 0, .null, .int 0, .int 0, .int 0, .int 0, .null, .null])), (q_17, .inr (12, [.ref q_18, .ref q_19, .ref q_20, .int 0, .int 0, .ref q_21, .int 0])), (q_21, .inr (18, [.int 0, .ref sx_ed, .int 0])), (q_47, .inl (cA_48, 1002, .inl (fun _ => 0)))] H := hP
  have hD : va_D A [(h0, .inr (16, [.ref q_1, .ref q_12, .ref q_17, .ref q_22, .ref q_24, .ref q_26, .ref q_28, .ref q_29, .ref q_31, .ref q_33, .ref q_35, .int 0, .ref q_37, .ref q_39, .ref q_41, .ref q_43, .ref q_45, .ref q_47, .null, .null, .null, .null, .null, .int 0, .null, .null, .null, .int 0, .int 0, .int 0, .int 0, .int 0, .null, .int 0, .null, .int 0, .int 0, .int 0, .int 0, .null, .null])), (q_17, .inr (12, [.ref q_18, .ref q_19, .ref q_20, .int 0, .int 0, .ref q_21, .int 0])), (q_21, .inr (18, [.int 0, .ref sx_ed, .int 0])), (q_47, .inl (cA_48, 1002, .inl (fun _ => 0)))] := hD
  have hP := hP.sub (ws' := [(h0, .inr (16, [.ref q_1, .ref q_12, .ref q_17, .ref q_22, .ref q_24, .ref q_26, .ref q_28, .ref q_29, .ref q_31, .ref q_33, .ref q_35, .int 0, .ref q_37, .ref q_39, .ref q_41, .ref q_43, .ref q_45, .ref q_47, .null, .null, .null, .null, .null, .int 0, .null, .null, .null, .int 0, .int 0, .int 0, .int 0, .int 0, .null, .int 0, .null, .int 0, .int 0, .int 0, .int 0, .null, .null])), (q_17, .inr (12, [.ref q_18, .ref q_19, .ref q_20, .int 0, .int 0, .ref q_21, .int 0])), (q_21, .inr (18, [.int 0, .ref sx_ed, .int 0]))]) [0, 1, 2] rfl
  have hD := hD.sub (ws' := [(h0, .inr (16, [.ref q_1, .ref q_12, .ref q_17, .ref q_22, .ref q_24, .ref q_26, .ref q_28, .ref q_29, .ref q_31, .ref q_33, .ref q_35, .int 0, .ref q_37, .ref q_39, .ref q_41, .ref q_43, .ref q_45, .ref q_47, .null, .null, .null, .null, .null, .int 0, .null, .null, .null, .int 0, .int 0, .int 0, .int 0, .int 0, .null, .int 0, .null, .int 0, .int 0, .int 0, .int 0, .null, .null])), (q_17, .inr (12, [.ref q_18, .ref q_19, .ref q_20, .int 0, .int 0, .ref q_21, .int 0])), (q_21, .inr (18, [.int 0, .ref sx_ed, .int 0]))]) [0, 1, 2] (by decide) rfl
  have hK := hK.sub (tys' := []) [] rfl
  refine lv_aload_n hx hb dX19_init_150 rfl (lv_at hl 0 rfl) ?_
  refine lv_sipush (v := 1002) hx hb dX19_init_151 (by decide) ?_
  refine va_newa (ty := .int) (n := 1002) (N' := 1002) (a0 := (1002, .inl (fun _ => 0))) hx hb (ow (k := 14) rfl) rfl hK hP hD hS hA (fun _ => rfl) (by decide) (by decide) (by decide) (Nat.le_of_ble_eq_true rfl) (Nat.le_of_ble_eq_true rfl) dX19_init_154 (fun q_49 cA_50 H hK hP hD hS => ?_)
  have hP : va_P (dC, dI) vwP [(h0, .inr (16, [.ref q_1, .ref q_12, .ref q_17, .ref q_22, .ref q_24, .ref q_26, .ref q_28, .ref q_29, .ref q_31, .ref q_33, .ref q_35, .int 0, .ref q_37, .ref q_39, .ref q_41, .ref q_43, .ref q_45, .ref q_47, .null, .null, .null, .null, .null, .int 0, .null, .null, .null, .int 0, .int 0, .int 0, .int 0, .int 0, .null, .int 0, .null, .int 0, .int 0, .int 0, .int 0, .null, .null])), (q_17, .inr (12, [.ref q_18, .ref q_19, .ref q_20, .int 0, .int 0, .ref q_21, .int 0])), (q_21, .inr (18, [.int 0, .ref sx_ed, .int 0])), (q_49, .inl (cA_50, 1002, .inl (fun _ => 0)))] H := hP
  have hD : va_D A [(h0, .inr (16, [.ref q_1, .ref q_12, .ref q_17, .ref q_22, .ref q_24, .ref q_26, .ref q_28, .ref q_29, .ref q_31, .ref q_33, .ref q_35, .int 0, .ref q_37, .ref q_39, .ref q_41, .ref q_43, .ref q_45, .ref q_47, .null, .null, .null, .null, .null, .int 0, .null, .null, .null, .int 0, .int 0, .int 0, .int 0, .int 0, .null, .int 0, .null, .int 0, .int 0, .int 0, .int 0, .null, .null])), (q_17, .inr (12, [.ref q_18, .ref q_19, .ref q_20, .int 0, .int 0, .ref q_21, .int 0])), (q_21, .inr (18, [.int 0, .ref sx_ed, .int 0])), (q_49, .inl (cA_50, 1002, .inl (fun _ => 0)))] := hD
  have hK : va_K (dC, dI) vwP [(cA_50, .int)] s := hK
  refine W.widen (k := 36) (n := 10071) (Nat.le_of_ble_eq_true rfl) (Nat.le_of_ble_eq_true rfl) ?_
  refine va_putF (D := (dC, dI)) (ci := 16) (v := .ref q_49) (ty := .array .int) (C := RX19) (T := TX19) (N := 41) hx hb hts mem_X19_init_2 tyX19 tyX19_ok nmX19 hown hK hP hD hS 0 rfl rfl 18 (by decide) (ow (k := 31) rfl) (fun _ h9 => h9) rfl hin rfl (by decide +kernel) rfl rfl (Nat.le_of_ble_eq_true rfl) dX19_init_156 (fun H locs hP hD hS => ?_)
  have hP : va_P (dC, dI) vwP [(h0, .inr (16, [.ref q_1, .ref q_12, .ref q_17, .ref q_22, .ref q_24, .ref q_26, .ref q_28, .ref q_29, .ref q_31, .ref q_33, .ref q_35, .int 0, .ref q_37, .ref q_39, .ref q_41, .ref q_43, .ref q_45, .ref q_47, .ref q_49, .null, .null, .null, .null, .int 0, .null, .null, .null, .int 0, .int 0, .int 0, .int 0, .int 0, .null, .int 0, .null, .int 0, .int 0, .int 0, .int 0, .null, .null])), (q_17, .inr (12, [.ref q_18, .ref q_19, .ref q_20, .int 0, .int 0, .ref q_21, .int 0])), (q_21, .inr (18, [.int 0, .ref sx_ed, .int 0])), (q_49, .inl (cA_50, 1002, .inl (fun _ => 0)))] H := hP
  have hD : va_D A [(h0, .inr (16, [.ref q_1, .ref q_12, .ref q_17, .ref q_22, .ref q_24, .ref q_26, .ref q_28, .ref q_29, .ref q_31, .ref q_33, .ref q_35, .int 0, .ref q_37, .ref q_39, .ref q_41, .ref q_43, .ref q_45, .ref q_47, .ref q_49, .null, .null, .null, .null, .int 0, .null, .null, .null, .int 0, .int 0, .int 0, .int 0, .int 0, .null, .int 0, .null, .int 0, .int 0, .int 0, .int 0, .null, .null])), (q_17, .inr (12, [.ref q_18, .ref q_19, .ref q_20, .int 0, .int 0, .ref q_21, .int 0])), (q_21, .inr (18, [.int 0, .ref sx_ed, .int 0])), (q_49, .inl (cA_50, 1002, .inl (fun _ => 0)))] := hD
  have hP := hP.sub (ws' := [(h0, .inr (16, [.ref q_1, .ref q_12, .ref q_17, .ref q_22, .ref q_24, .ref q_26, .ref q_28, .ref q_29, .ref q_31, .ref q_33, .ref q_35, .int 0, .ref q_37, .ref q_39, .ref q_41, .ref q_43, .ref q_45, .ref q_47, .ref q_49, .null, .null, .null, .null, .int 0, .null, .null, .null, .int 0, .int 0, .int 0, .int 0, .int 0, .null, .int 0, .null, .int 0, .int 0, .int 0, .int 0, .null, .null])), (q_17, .inr (12, [.ref q_18, .ref q_19, .ref q_20, .int 0, .int 0, .ref q_21, .int 0])), (q_21, .inr (18, [.int 0, .ref sx_ed, .int 0]))]) [0, 1, 2] rfl
  have hD := hD.sub (ws' := [(h0, .inr (16, [.ref q_1, .ref q_12, .ref q_17, .ref q_22, .ref q_24, .ref q_26, .ref q_28, .ref q_29, .ref q_31, .ref q_33, .ref q_35, .int 0, .ref q_37, .ref q_39, .ref q_41, .ref q_43, .ref q_45, .ref q_47, .ref q_49, .null, .null, .null, .null, .int 0, .null, .null, .null, .int 0, .int 0, .int 0, .int 0, .int 0, .null, .int 0, .null, .int 0, .int 0, .int 0, .int 0, .null, .null])), (q_17, .inr (12, [.ref q_18, .ref q_19, .ref q_20, .int 0, .int 0, .ref q_21, .int 0])), (q_21, .inr (18, [.int 0, .ref sx_ed, .int 0]))]) [0, 1, 2] (by decide) rfl
  have hK := hK.sub (tys' := []) [] rfl
  refine lv_aload_n hx hb dX19_init_159 rfl (lv_at hl 0 rfl) ?_
  refine lv_sipush (v := 1003) hx hb dX19_init_160 (by decide) ?_
  refine va_newa (ty := .boolean) (n := 1003) (N' := 1003) (a0 := (1003, .inl (fun _ => 0))) hx hb (ow (k := 16) rfl) rfl hK hP hD hS hA (fun _ => rfl) (by decide) (by decide) (by decide) (Nat.le_of_ble_eq_true rfl) (Nat.le_of_ble_eq_true rfl) dX19_init_163 (fun q_51 cA_52 H hK hP hD hS => ?_)
  have hP : va_P (dC, dI) vwP [(h0, .inr (16, [.ref q_1, .ref q_12, .ref q_17, .ref q_22, .ref q_24, .ref q_26, .ref q_28, .ref q_29, .ref q_31, .ref q_33, .ref q_35, .int 0, .ref q_37, .ref q_39, .ref q_41, .ref q_43, .ref q_45, .ref q_47, .ref q_49, .null, .null, .null, .null, .int 0, .null, .null, .null, .int 0, .int 0, .int 0, .int 0, .int 0, .null, .int 0, .null, .int 0, .int 0, .int 0, .int 0, .null, .null])), (q_17, .inr (12, [.ref q_18, .ref q_19, .ref q_20, .int 0, .int 0, .ref q_21, .int 0])), (q_21, .inr (18, [.int 0, .ref sx_ed, .int 0])), (q_51, .inl (cA_52, 1003, .inl (fun _ => 0)))] H := hP
  have hD : va_D A [(h0, .inr (16, [.ref q_1, .ref q_12, .ref q_17, .ref q_22, .ref q_24, .ref q_26, .ref q_28, .ref q_29, .ref q_31, .ref q_33, .ref q_35, .int 0, .ref q_37, .ref q_39, .ref q_41, .ref q_43, .ref q_45, .ref q_47, .ref q_49, .null, .null, .null, .null, .int 0, .null, .null, .null, .int 0, .int 0, .int 0, .int 0, .int 0, .null, .int 0, .null, .int 0, .int 0, .int 0, .int 0, .null, .null])), (q_17, .inr (12, [.ref q_18, .ref q_19, .ref q_20, .int 0, .int 0, .ref q_21, .int 0])), (q_21, .inr (18, [.int 0, .ref sx_ed, .int 0])), (q_51, .inl (cA_52, 1003, .inl (fun _ => 0)))] := hD
  have hK : va_K (dC, dI) vwP [(cA_52, .boolean)] s := hK
  refine W.widen (k := 37) (n := 11074) (Nat.le_of_ble_eq_true rfl) (Nat.le_of_ble_eq_true rfl) ?_
  refine va_putF (D := (dC, dI)) (ci := 16) (v := .ref q_51) (ty := .array .boolean) (C := RX19) (T := TX19) (N := 41) hx hb hts mem_X19_init_2 tyX19 tyX19_ok nmX19 hown hK hP hD hS 0 rfl rfl 19 (by decide) (ow (k := 32) rfl) (fun _ h9 => h9) rfl hin rfl (by decide +kernel) rfl rfl (Nat.le_of_ble_eq_true rfl) dX19_init_165 (fun H locs hP hD hS => ?_)
  have hP : va_P (dC, dI) vwP [(h0, .inr (16, [.ref q_1, .ref q_12, .ref q_17, .ref q_22, .ref q_24, .ref q_26, .ref q_28, .ref q_29, .ref q_31, .ref q_33, .ref q_35, .int 0, .ref q_37, .ref q_39, .ref q_41, .ref q_43, .ref q_45, .ref q_47, .ref q_49, .ref q_51, .null, .null, .null, .int 0, .null, .null, .null, .int 0, .int 0, .int 0, .int 0, .int 0, .null, .int 0, .null, .int 0, .int 0, .int 0, .int 0, .null, .null])), (q_17, .inr (12, [.ref q_18, .ref q_19, .ref q_20, .int 0, .int 0, .ref q_21, .int 0])), (q_21, .inr (18, [.int 0, .ref sx_ed, .int 0])), (q_51, .inl (cA_52, 1003, .inl (fun _ => 0)))] H := hP
  have hD : va_D A [(h0, .inr (16, [.ref q_1, .ref q_12, .ref q_17, .ref q_22, .ref q_24, .ref q_26, .ref q_28, .ref q_29, .ref q_31, .ref q_33, .ref q_35, .int 0, .ref q_37, .ref q_39, .ref q_41, .ref q_43, .ref q_45, .ref q_47, .ref q_49, .ref q_51, .null, .null, .null, .int 0, .null, .null, .null, .int 0, .int 0, .int 0, .int 0, .int 0, .null, .int 0, .null, .int 0, .int 0, .int 0, .int 0, .null, .null])), (q_17, .inr (12, [.ref q_18, .ref q_19, .ref q_20, .int 0, .int 0, .ref q_21, .int 0])), (q_21, .inr (18, [.int 0, .ref sx_ed, .int 0])), (q_51, .inl (cA_52, 1003, .inl (fun _ => 0)))] := hD
  have hP := hP.sub (ws' := [(h0, .inr (16, [.ref q_1, .ref q_12, .ref q_17, .ref q_22, .ref q_24, .ref q_26, .ref q_28, .ref q_29, .ref q_31, .ref q_33, .ref q_35, .int 0, .ref q_37, .ref q_39, .ref q_41, .ref q_43, .ref q_45, .ref q_47, .ref q_49, .ref q_51, .null, .null, .null, .int 0, .null, .null, .null, .int 0, .int 0, .int 0, .int 0, .int 0, .null, .int 0, .null, .int 0, .int 0, .int 0, .int 0, .null, .null])), (q_17, .inr (12, [.ref q_18, .ref q_19, .ref q_20, .int 0, .int 0, .ref q_21, .int 0])), (q_21, .inr (18, [.int 0, .ref sx_ed, .int 0]))]) [0, 1, 2] rfl
  have hD := hD.sub (ws' := [(h0, .inr (16, [.ref q_1, .ref q_12, .ref q_17, .ref q_22, .ref q_24, .ref q_26, .ref q_28, .ref q_29, .ref q_31, .ref q_33, .ref q_35, .int 0, .ref q_37, .ref q_39, .ref q_41, .ref q_43, .ref q_45, .ref q_47, .ref q_49, .ref q_51, .null, .null, .null, .int 0, .null, .null, .null, .int 0, .int 0, .int 0, .int 0, .int 0, .null, .int 0, .null, .int 0, .int 0, .int 0, .int 0, .null, .null])), (q_17, .inr (12, [.ref q_18, .ref q_19, .ref q_20, .int 0, .int 0, .ref q_21, .int 0])), (q_21, .inr (18, [.int 0, .ref sx_ed, .int 0]))]) [0, 1, 2] (by decide) rfl
  have hK := hK.sub (tys' := []) [] rfl
  refine lv_aload_n hx hb dX19_init_168 rfl (lv_at hl 0 rfl) ?_
  refine lv_bipush (v := 64) hx hb dX19_init_169 (by decide) ?_
  refine va_newa (ty := .int) (n := 64) (N' := 64) (a0 := (64, .inl (fun _ => 0))) hx hb (ow (k := 14) rfl) rfl hK hP hD hS hA (fun _ => rfl) (by decide) (by decide) (by decide) (Nat.le_of_ble_eq_true rfl) (Nat.le_of_ble_eq_true rfl) dX19_init_171 (fun q_53 cA_54 H hK hP hD hS => ?_)
  have hP : va_P (dC, dI) vwP [(h0, .inr (16, [.ref q_1, .ref q_12, .ref q_17, .ref q_22, .ref q_24, .ref q_26, .ref q_28, .ref q_29, .ref q_31, .ref q_33, .ref q_35, .int 0, .ref q_37, .ref q_39, .ref q_41, .ref q_43, .ref q_45, .ref q_47, .ref q_49, .ref q_51, .null, .null, .null, .int 0, .null, .null, .null, .int 0, .int 0, .int 0, .int 0, .int 0, .null, .int 0, .null, .int 0, .int 0, .int 0, .int 0, .null, .null])), (q_17, .inr (12, [.ref q_18, .ref q_19, .ref q_20, .int 0, .int 0, .ref q_21, .int 0])), (q_21, .inr (18, [.int 0, .ref sx_ed, .int 0])), (q_53, .inl (cA_54, 64, .inl (fun _ => 0)))] H := hP
  have hD : va_D A [(h0, .inr (16, [.ref q_1, .ref q_12, .ref q_17, .ref q_22, .ref q_24, .ref q_26, .ref q_28, .ref q_29, .ref q_31, .ref q_33, .ref q_35, .int 0, .ref q_37, .ref q_39, .ref q_41, .ref q_43, .ref q_45, .ref q_47, .ref q_49, .ref q_51, .null, .null, .null, .int 0, .null, .null, .null, .int 0, .int 0, .int 0, .int 0, .int 0, .null, .int 0, .null, .int 0, .int 0, .int 0, .int 0, .null, .null])), (q_17, .inr (12, [.ref q_18, .ref q_19, .ref q_20, .int 0, .int 0, .ref q_21, .int 0])), (q_21, .inr (18, [.int 0, .ref sx_ed, .int 0])), (q_53, .inl (cA_54, 64, .inl (fun _ => 0)))] := hD
  have hK : va_K (dC, dI) vwP [(cA_54, .int)] s := hK
  refine W.widen (k := 38) (n := 11138) (Nat.le_of_ble_eq_true rfl) (Nat.le_of_ble_eq_true rfl) ?_
  refine va_put (D := (dC, dI)) (ci := 16) (v := .ref q_53) (ty := .array .int) (C := RX19) (T := TX19) (N := 41) hx hb hts mem_X19_init_2 tyX19 tyX19_ok nmX19 hown hK hP hD hS 0 rfl rfl 20 (by decide) (ow (k := 33) rfl) (fun _ h9 => h9) rfl (by decide +kernel) rfl rfl (Nat.le_of_ble_eq_true rfl) dX19_init_173 (fun H locs hP hD hS => ?_)
  have hP : va_P (dC, dI) vwP [(h0, .inr (16, [.ref q_1, .ref q_12, .ref q_17, .ref q_22, .ref q_24, .ref q_26, .ref q_28, .ref q_29, .ref q_31, .ref q_33, .ref q_35, .int 0, .ref q_37, .ref q_39, .ref q_41, .ref q_43, .ref q_45, .ref q_47, .ref q_49, .ref q_51, .ref q_53, .null, .null, .int 0, .null, .null, .null, .int 0, .int 0, .int 0, .int 0, .int 0, .null, .int 0, .null, .int 0, .int 0, .int 0, .int 0, .null, .null])), (q_17, .inr (12, [.ref q_18, .ref q_19, .ref q_20, .int 0, .int 0, .ref q_21, .int 0])), (q_21, .inr (18, [.int 0, .ref sx_ed, .int 0])), (q_53, .inl (cA_54, 64, .inl (fun _ => 0)))] H := hP
  have hD : va_D A [(h0, .inr (16, [.ref q_1, .ref q_12, .ref q_17, .ref q_22, .ref q_24, .ref q_26, .ref q_28, .ref q_29, .ref q_31, .ref q_33, .ref q_35, .int 0, .ref q_37, .ref q_39, .ref q_41, .ref q_43, .ref q_45, .ref q_47, .ref q_49, .ref q_51, .ref q_53, .null, .null, .int 0, .null, .null, .null, .int 0, .int 0, .int 0, .int 0, .int 0, .null, .int 0, .null, .int 0, .int 0, .int 0, .int 0, .null, .null])), (q_17, .inr (12, [.ref q_18, .ref q_19, .ref q_20, .int 0, .int 0, .ref q_21, .int 0])), (q_21, .inr (18, [.int 0, .ref sx_ed, .int 0])), (q_53, .inl (cA_54, 64, .inl (fun _ => 0)))] := hD
  have hP := hP.sub (ws' := [(h0, .inr (16, [.ref q_1, .ref q_12, .ref q_17, .ref q_22, .ref q_24, .ref q_26, .ref q_28, .ref q_29, .ref q_31, .ref q_33, .ref q_35, .int 0, .ref q_37, .ref q_39, .ref q_41, .ref q_43, .ref q_45, .ref q_47, .ref q_49, .ref q_51, .ref q_53, .null, .null, .int 0, .null, .null, .null, .int 0, .int 0, .int 0, .int 0, .int 0, .null, .int 0, .null, .int 0, .int 0, .int 0, .int 0, .null, .null])), (q_17, .inr (12, [.ref q_18, .ref q_19, .ref q_20, .int 0, .int 0, .ref q_21, .int 0])), (q_21, .inr (18, [.int 0, .ref sx_ed, .int 0]))]) [0, 1, 2] rfl
  have hD := hD.sub (ws' := [(h0, .inr (16, [.ref q_1, .ref q_12, .ref q_17, .ref q_22, .ref q_24, .ref q_26, .ref q_28, .ref q_29, .ref q_31, .ref q_33, .ref q_35, .int 0, .ref q_37, .ref q_39, .ref q_41, .ref q_43, .ref q_45, .ref q_47, .ref q_49, .ref q_51, .ref q_53, .null, .null, .int 0, .null, .null, .null, .int 0, .int 0, .int 0, .int 0, .int 0, .null, .int 0, .null, .int 0, .int 0, .int 0, .int 0, .null, .null])), (q_17, .inr (12, [.ref q_18, .ref q_19, .ref q_20, .int 0, .int 0, .ref q_21, .int 0])), (q_21, .inr (18, [.int 0, .ref sx_ed, .int 0]))]) [0, 1, 2] (by decide) rfl
  have hK := hK.sub (tys' := []) [] rfl
  refine lv_aload_n hx hb dX19_init_176 rfl (lv_at hl 0 rfl) ?_
  refine lv_bipush (v := 64) hx hb dX19_init_177 (by decide) ?_
  refine va_newa (ty := .int) (n := 64) (N' := 64) (a0 := (64, .inl (fun _ => 0))) hx hb (ow (k := 14) rfl) rfl hK hP hD hS hA (fun _ => rfl) (by decide) (by decide) (by decide) (Nat.le_of_ble_eq_true rfl) (Nat.le_of_ble_eq_true rfl) dX19_init_179 (fun q_55 cA_56 H hK hP hD hS => ?_)
  have hP : va_P (dC, dI) vwP [(h0, .inr (16, [.ref q_1, .ref q_12, .ref q_17, .ref q_22, .ref q_24, .ref q_26, .ref q_28, .ref q_29, .ref q_31, .ref q_33, .ref q_35, .int 0, .ref q_37, .ref q_39, .ref q_41, .ref q_43, .ref q_45, .ref q_47, .ref q_49, .ref q_51, .ref q_53, .null, .null, .int 0, .null, .null, .null, .int 0, .int 0, .int 0, .int 0, .int 0, .null, .int 0, .null, .int 0, .int 0, .int 0, .int 0, .null, .null])), (q_17, .inr (12, [.ref q_18, .ref q_19, .ref q_20, .int 0, .int 0, .ref q_21, .int 0])), (q_21, .inr (18, [.int 0, .ref sx_ed, .int 0])), (q_55, .inl (cA_56, 64, .inl (fun _ => 0)))] H := hP
  have hD : va_D A [(h0, .inr (16, [.ref q_1, .ref q_12, .ref q_17, .ref q_22, .ref q_24, .ref q_26, .ref q_28, .ref q_29, .ref q_31, .ref q_33, .ref q_35, .int 0, .ref q_37, .ref q_39, .ref q_41, .ref q_43, .ref q_45, .ref q_47, .ref q_49, .ref q_51, .ref q_53, .null, .null, .int 0, .null, .null, .null, .int 0, .int 0, .int 0, .int 0, .int 0, .null, .int 0, .null, .int 0, .int 0, .int 0, .int 0, .null, .null])), (q_17, .inr (12, [.ref q_18, .ref q_19, .ref q_20, .int 0, .int 0, .ref q_21, .int 0])), (q_21, .inr (18, [.int 0, .ref sx_ed, .int 0])), (q_55, .inl (cA_56, 64, .inl (fun _ => 0)))] := hD
  have hK : va_K (dC, dI) vwP [(cA_56, .int)] s := hK
  refine W.widen (k := 39) (n := 11202) (Nat.le_of_ble_eq_true rfl) (Nat.le_of_ble_eq_true rfl) ?_
  refine va_put (D := (dC, dI)) (ci := 16) (v := .ref q_55) (ty := .array .int) (C := RX19) (T := TX19) (N := 41) hx hb hts mem_X19_init_2 tyX19 tyX19_ok nmX19 hown hK hP hD hS 0 rfl rfl 21 (by decide) (ow (k := 34) rfl) (fun _ h9 => h9) rfl (by decide +kernel) rfl rfl (Nat.le_of_ble_eq_true rfl) dX19_init_181 (fun H locs hP hD hS => ?_)
  have hP : va_P (dC, dI) vwP [(h0, .inr (16, [.ref q_1, .ref q_12, .ref q_17, .ref q_22, .ref q_24, .ref q_26, .ref q_28, .ref q_29, .ref q_31, .ref q_33, .ref q_35, .int 0, .ref q_37, .ref q_39, .ref q_41, .ref q_43, .ref q_45, .ref q_47, .ref q_49, .ref q_51, .ref q_53, .ref q_55, .null, .int 0, .null, .null, .null, .int 0, .int 0, .int 0, .int 0, .int 0, .null, .int 0, .null, .int 0, .int 0, .int 0, .int 0, .null, .null])), (q_17, .inr (12, [.ref q_18, .ref q_19, .ref q_20, .int 0, .int 0, .ref q_21, .int 0])), (q_21, .inr (18, [.int 0, .ref sx_ed, .int 0])), (q_55, .inl (cA_56, 64, .inl (fun _ => 0)))] H := hP
  have hD : va_D A [(h0, .inr (16, [.ref q_1, .ref q_12, .ref q_17, .ref q_22, .ref q_24, .ref q_26, .ref q_28, .ref q_29, .ref q_31, .ref q_33, .ref q_35, .int 0, .ref q_37, .ref q_39, .ref q_41, .ref q_43, .ref q_45, .ref q_47, .ref q_49, .ref q_51, .ref q_53, .ref q_55, .null, .int 0, .null, .null, .null, .int 0, .int 0, .int 0, .int 0, .int 0, .null, .int 0, .null, .int 0, .int 0, .int 0, .int 0, .null, .null])), (q_17, .inr (12, [.ref q_18, .ref q_19, .ref q_20, .int 0, .int 0, .ref q_21, .int 0])), (q_21, .inr (18, [.int 0, .ref sx_ed, .int 0])), (q_55, .inl (cA_56, 64, .inl (fun _ => 0)))] := hD
  have hP := hP.sub (ws' := [(h0, .inr (16, [.ref q_1, .ref q_12, .ref q_17, .ref q_22, .ref q_24, .ref q_26, .ref q_28, .ref q_29, .ref q_31, .ref q_33, .ref q_35, .int 0, .ref q_37, .ref q_39, .ref q_41, .ref q_43, .ref q_45, .ref q_47, .ref q_49, .ref q_51, .ref q_53, .ref q_55, .null, .int 0, .null, .null, .null, .int 0, .int 0, .int 0, .int 0, .int 0, .null, .int 0, .null, .int 0, .int 0, .int 0, .int 0, .null, .null])), (q_17, .inr (12, [.ref q_18, .ref q_19, .ref q_20, .int 0, .int 0, .ref q_21, .int 0])), (q_21, .inr (18, [.int 0, .ref sx_ed, .int 0]))]) [0, 1, 2] rfl
  have hD := hD.sub (ws' := [(h0, .inr (16, [.ref q_1, .ref q_12, .ref q_17, .ref q_22, .ref q_24, .ref q_26, .ref q_28, .ref q_29, .ref q_31, .ref q_33, .ref q_35, .int 0, .ref q_37, .ref q_39, .ref q_41, .ref q_43, .ref q_45, .ref q_47, .ref q_49, .ref q_51, .ref q_53, .ref q_55, .null, .int 0, .null, .null, .null, .int 0, .int 0, .int 0, .int 0, .int 0, .null, .int 0, .null, .int 0, .int 0, .int 0, .int 0, .null, .null])), (q_17, .inr (12, [.ref q_18, .ref q_19, .ref q_20, .int 0, .int 0, .ref q_21, .int 0])), (q_21, .inr (18, [.int 0, .ref sx_ed, .int 0]))]) [0, 1, 2] (by decide) rfl
  have hK := hK.sub (tys' := []) [] rfl
  refine lv_aload_n hx hb dX19_init_184 rfl (lv_at hl 0 rfl) ?_
  refine lv_bipush (v := 64) hx hb dX19_init_185 (by decide) ?_
  refine va_newa (ty := .boolean) (n := 64) (N' := 64) (a0 := (64, .inl (fun _ => 0))) hx hb (ow (k := 16) rfl) rfl hK hP hD hS hA (fun _ => rfl) (by decide) (by decide) (by decide) (Nat.le_of_ble_eq_true rfl) (Nat.le_of_ble_eq_true rfl) dX19_init_187 (fun q_57 cA_58 H hK hP hD hS => ?_)
  have hP : va_P (dC, dI) vwP [(h0, .inr (16, [.ref q_1, .ref q_12, .ref q_17, .ref q_22, .ref q_24, .ref q_26, .ref q_28, .ref q_29, .ref q_31, .ref q_33, .ref q_35, .int 0, .ref q_37, .ref q_39, .ref q_41, .ref q_43, .ref q_45, .ref q_47, .ref q_49, .ref q_51, .ref q_53, .ref q_55, .null, .int 0, .null, .null, .null, .int 0, .int 0, .int 0, .int 0, .int 0, .null, .int 0, .null, .int 0, .int 0, .int 0, .int 0, .null, .null])), (q_17, .inr (12, [.ref q_18, .ref q_19, .ref q_20, .int 0, .int 0, .ref q_21, .int 0])), (q_21, .inr (18, [.int 0, .ref sx_ed, .int 0])), (q_57, .inl (cA_58, 64, .inl (fun _ => 0)))] H := hP
  have hD : va_D A [(h0, .inr (16, [.ref q_1, .ref q_12, .ref q_17, .ref q_22, .ref q_24, .ref q_26, .ref q_28, .ref q_29, .ref q_31, .ref q_33, .ref q_35, .int 0, .ref q_37, .ref q_39, .ref q_41, .ref q_43, .ref q_45, .ref q_47, .ref q_49, .ref q_51, .ref q_53, .ref q_55, .null, .int 0, .null, .null, .null, .int 0, .int 0, .int 0, .int 0, .int 0, .null, .int 0, .null, .int 0, .int 0, .int 0, .int 0, .null, .null])), (q_17, .inr (12, [.ref q_18, .ref q_19, .ref q_20, .int 0, .int 0, .ref q_21, .int 0])), (q_21, .inr (18, [.int 0, .ref sx_ed, .int 0])), (q_57, .inl (cA_58, 64, .inl (fun _ => 0)))] := hD
  have hK : va_K (dC, dI) vwP [(cA_58, .boolean)] s := hK
  refine W.widen (k := 40) (n := 11266) (Nat.le_of_ble_eq_true rfl) (Nat.le_of_ble_eq_true rfl) ?_
  refine va_put (D := (dC, dI)) (ci := 16) (v := .ref q_57) (ty := .array .boolean) (C := RX19) (T := TX19) (N := 41) hx hb hts mem_X19_init_2 tyX19 tyX19_ok nmX19 hown hK hP hD hS 0 rfl rfl 22 (by decide) (ow (k := 35) rfl) (fun _ h9 => h9) rfl (by decide +kernel) rfl rfl (Nat.le_of_ble_eq_true rfl) dX19_init_189 (fun H locs hP hD hS => ?_)
  have hP : va_P (dC, dI) vwP [(h0, .inr (16, [.ref q_1, .ref q_12, .ref q_17, .ref q_22, .ref q_24, .ref q_26, .ref q_28, .ref q_29, .ref q_31, .ref q_33, .ref q_35, .int 0, .ref q_37, .ref q_39, .ref q_41, .ref q_43, .ref q_45, .ref q_47, .ref q_49, .ref q_51, .ref q_53, .ref q_55, .ref q_57, .int 0, .null, .null, .null, .int 0, .int 0, .int 0, .int 0, .int 0, .null, .int 0, .null, .int 0, .int 0, .int 0, .int 0, .null, .null])), (q_17, .inr (12, [.ref q_18, .ref q_19, .ref q_20, .int 0, .int 0, .ref q_21, .int 0])), (q_21, .inr (18, [.int 0, .ref sx_ed, .int 0])), (q_57, .inl (cA_58, 64, .inl (fun _ => 0)))] H := hP
  have hD : va_D A [(h0, .inr (16, [.ref q_1, .ref q_12, .ref q_17, .ref q_22, .ref q_24, .ref q_26, .ref q_28, .ref q_29, .ref q_31, .ref q_33, .ref q_35, .int 0, .ref q_37, .ref q_39, .ref q_41, .ref q_43, .ref q_45, .ref q_47, .ref q_49, .ref q_51, .ref q_53, .ref q_55, .ref q_57, .int 0, .null, .null, .null, .int 0, .int 0, .int 0, .int 0, .int 0, .null, .int 0, .null, .int 0, .int 0, .int 0, .int 0, .null, .null])), (q_17, .inr (12, [.ref q_18, .ref q_19, .ref q_20, .int 0, .int 0, .ref q_21, .int 0])), (q_21, .inr (18, [.int 0, .ref sx_ed, .int 0])), (q_57, .inl (cA_58, 64, .inl (fun _ => 0)))] := hD
  have hP := hP.sub (ws' := [(h0, .inr (16, [.ref q_1, .ref q_12, .ref q_17, .ref q_22, .ref q_24, .ref q_26, .ref q_28, .ref q_29, .ref q_31, .ref q_33, .ref q_35, .int 0, .ref q_37, .ref q_39, .ref q_41, .ref q_43, .ref q_45, .ref q_47, .ref q_49, .ref q_51, .ref q_53, .ref q_55, .ref q_57, .int 0, .null, .null, .null, .int 0, .int 0, .int 0, .int 0, .int 0, .null, .int 0, .null, .int 0, .int 0, .int 0, .int 0, .null, .null])), (q_17, .inr (12, [.ref q_18, .ref q_19, .ref q_20, .int 0, .int 0, .ref q_21, .int 0])), (q_21, .inr (18, [.int 0, .ref sx_ed, .int 0]))]) [0, 1, 2] rfl
  have hD := hD.sub (ws' := [(h0, .inr (16, [.ref q_1, .ref q_12, .ref q_17, .ref q_22, .ref q_24, .ref q_26, .ref q_28, .ref q_29, .ref q_31, .ref q_33, .ref q_35, .int 0, .ref q_37, .ref q_39, .ref q_41, .ref q_43, .ref q_45, .ref q_47, .ref q_49, .ref q_51, .ref q_53, .ref q_55, .ref q_57, .int 0, .null, .null, .null, .int 0, .int 0, .int 0, .int 0, .int 0, .null, .int 0, .null, .int 0, .int 0, .int 0, .int 0, .null, .null])), (q_17, .inr (12, [.ref q_18, .ref q_19, .ref q_20, .int 0, .int 0, .ref q_21, .int 0])), (q_21, .inr (18, [.int 0, .ref sx_ed, .int 0]))]) [0, 1, 2] (by decide) rfl
  have hK := hK.sub (tys' := []) [] rfl
  refine lv_aload_n hx hb dX19_init_192 rfl (lv_at hl 0 rfl) ?_
  refine lv_sipush (v := 1002) hx hb dX19_init_193 (by decide) ?_
  refine va_newa (ty := .int) (n := 1002) (N' := 1002) (a0 := (1002, .inl (fun _ => 0))) hx hb (ow (k := 14) rfl) rfl hK hP hD hS hA (fun _ => rfl) (by decide) (by decide) (by decide) (Nat.le_of_ble_eq_true rfl) (Nat.le_of_ble_eq_true rfl) dX19_init_196 (fun q_59 cA_60 H hK hP hD hS => ?_)
  have hP : va_P (dC, dI) vwP [(h0, .inr (16, [.ref q_1, .ref q_12, .ref q_17, .ref q_22, .ref q_24, .ref q_26, .ref q_28, .ref q_29, .ref q_31, .ref q_33, .ref q_35, .int 0, .ref q_37, .ref q_39, .ref q_41, .ref q_43, .ref q_45, .ref q_47, .ref q_49, .ref q_51, .ref q_53, .ref q_55, .ref q_57, .int 0, .null, .null, .null, .int 0, .int 0, .int 0, .int 0, .int 0, .null, .int 0, .null, .int 0, .int 0, .int 0, .int 0, .null, .null])), (q_17, .inr (12, [.ref q_18, .ref q_19, .ref q_20, .int 0, .int 0, .ref q_21, .int 0])), (q_21, .inr (18, [.int 0, .ref sx_ed, .int 0])), (q_59, .inl (cA_60, 1002, .inl (fun _ => 0)))] H := hP
  have hD : va_D A [(h0, .inr (16, [.ref q_1, .ref q_12, .ref q_17, .ref q_22, .ref q_24, .ref q_26, .ref q_28, .ref q_29, .ref q_31, .ref q_33, .ref q_35, .int 0, .ref q_37, .ref q_39, .ref q_41, .ref q_43, .ref q_45, .ref q_47, .ref q_49, .ref q_51, .ref q_53, .ref q_55, .ref q_57, .int 0, .null, .null, .null, .int 0, .int 0, .int 0, .int 0, .int 0, .null, .int 0, .null, .int 0, .int 0, .int 0, .int 0, .null, .null])), (q_17, .inr (12, [.ref q_18, .ref q_19, .ref q_20, .int 0, .int 0, .ref q_21, .int 0])), (q_21, .inr (18, [.int 0, .ref sx_ed, .int 0])), (q_59, .inl (cA_60, 1002, .inl (fun _ => 0)))] := hD
  have hK : va_K (dC, dI) vwP [(cA_60, .int)] s := hK
  refine W.widen (k := 41) (n := 12268) (Nat.le_of_ble_eq_true rfl) (Nat.le_of_ble_eq_true rfl) ?_
  refine va_putF (D := (dC, dI)) (ci := 16) (v := .ref q_59) (ty := .array .int) (C := RX19) (T := TX19) (N := 41) hx hb hts mem_X19_init_2 tyX19 tyX19_ok nmX19 hown hK hP hD hS 0 rfl rfl 24 (by decide) (ow (k := 36) rfl) (fun _ h9 => h9) rfl hin rfl (by decide +kernel) rfl rfl (Nat.le_of_ble_eq_true rfl) dX19_init_198 (fun H locs hP hD hS => ?_)
  have hP : va_P (dC, dI) vwP [(h0, .inr (16, [.ref q_1, .ref q_12, .ref q_17, .ref q_22, .ref q_24, .ref q_26, .ref q_28, .ref q_29, .ref q_31, .ref q_33, .ref q_35, .int 0, .ref q_37, .ref q_39, .ref q_41, .ref q_43, .ref q_45, .ref q_47, .ref q_49, .ref q_51, .ref q_53, .ref q_55, .ref q_57, .int 0, .ref q_59, .null, .null, .int 0, .int 0, .int 0, .int 0, .int 0, .null, .int 0, .null, .int 0, .int 0, .int 0, .int 0, .null, .null])), (q_17, .inr (12, [.ref q_18, .ref q_19, .ref q_20, .int 0, .int 0, .ref q_21, .int 0])), (q_21, .inr (18, [.int 0, .ref sx_ed, .int 0])), (q_59, .inl (cA_60, 1002, .inl (fun _ => 0)))] H := hP
  have hD : va_D A [(h0, .inr (16, [.ref q_1, .ref q_12, .ref q_17, .ref q_22, .ref q_24, .ref q_26, .ref q_28, .ref q_29, .ref q_31, .ref q_33, .ref q_35, .int 0, .ref q_37, .ref q_39, .ref q_41, .ref q_43, .ref q_45, .ref q_47, .ref q_49, .ref q_51, .ref q_53, .ref q_55, .ref q_57, .int 0, .ref q_59, .null, .null, .int 0, .int 0, .int 0, .int 0, .int 0, .null, .int 0, .null, .int 0, .int 0, .int 0, .int 0, .null, .null])), (q_17, .inr (12, [.ref q_18, .ref q_19, .ref q_20, .int 0, .int 0, .ref q_21, .int 0])), (q_21, .inr (18, [.int 0, .ref sx_ed, .int 0])), (q_59, .inl (cA_60, 1002, .inl (fun _ => 0)))] := hD
  have hP := hP.sub (ws' := [(h0, .inr (16, [.ref q_1, .ref q_12, .ref q_17, .ref q_22, .ref q_24, .ref q_26, .ref q_28, .ref q_29, .ref q_31, .ref q_33, .ref q_35, .int 0, .ref q_37, .ref q_39, .ref q_41, .ref q_43, .ref q_45, .ref q_47, .ref q_49, .ref q_51, .ref q_53, .ref q_55, .ref q_57, .int 0, .ref q_59, .null, .null, .int 0, .int 0, .int 0, .int 0, .int 0, .null, .int 0, .null, .int 0, .int 0, .int 0, .int 0, .null, .null])), (q_17, .inr (12, [.ref q_18, .ref q_19, .ref q_20, .int 0, .int 0, .ref q_21, .int 0])), (q_21, .inr (18, [.int 0, .ref sx_ed, .int 0]))]) [0, 1, 2] rfl
  have hD := hD.sub (ws' := [(h0, .inr (16, [.ref q_1, .ref q_12, .ref q_17, .ref q_22, .ref q_24, .ref q_26, .ref q_28, .ref q_29, .ref q_31, .ref q_33, .ref q_35, .int 0, .ref q_37, .ref q_39, .ref q_41, .ref q_43, .ref q_45, .ref q_47, .ref q_49, .ref q_51, .ref q_53, .ref q_55, .ref q_57, .int 0, .ref q_59, .null, .null, .int 0, .int 0, .int 0, .int 0, .int 0, .null, .int 0, .null, .int 0, .int 0, .int 0, .int 0, .null, .null])), (q_17, .inr (12, [.ref q_18, .ref q_19, .ref q_20, .int 0, .int 0, .ref q_21, .int 0])), (q_21, .inr (18, [.int 0, .ref sx_ed, .int 0]))]) [0, 1, 2] (by decide) rfl
  have hK := hK.sub (tys' := []) [] rfl
  refine lv_aload_n hx hb dX19_init_201 rfl (lv_at hl 0 rfl) ?_
  refine lv_sipush (v := 512) hx hb dX19_init_202 (by decide) ?_
  refine va_newa (ty := .int) (n := 512) (N' := 512) (a0 := (512, .inl (fun _ => 0))) hx hb (ow (k := 14) rfl) rfl hK hP hD hS hA (fun _ => rfl) (by decide) (by decide) (by decide) (Nat.le_of_ble_eq_true rfl) (Nat.le_of_ble_eq_true rfl) dX19_init_205 (fun q_61 cA_62 H hK hP hD hS => ?_)
  have hP : va_P (dC, dI) vwP [(h0, .inr (16, [.ref q_1, .ref q_12, .ref q_17, .ref q_22, .ref q_24, .ref q_26, .ref q_28, .ref q_29, .ref q_31, .ref q_33, .ref q_35, .int 0, .ref q_37, .ref q_39, .ref q_41, .ref q_43, .ref q_45, .ref q_47, .ref q_49, .ref q_51, .ref q_53, .ref q_55, .ref q_57, .int 0, .ref q_59, .null, .null, .int 0, .int 0, .int 0, .int 0, .int 0, .null, .int 0, .null, .int 0, .int 0, .int 0, .int 0, .null, .null])), (q_17, .inr (12, [.ref q_18, .ref q_19, .ref q_20, .int 0, .int 0, .ref q_21, .int 0])), (q_21, .inr (18, [.int 0, .ref sx_ed, .int 0])), (q_61, .inl (cA_62, 512, .inl (fun _ => 0)))] H := hP
  have hD : va_D A [(h0, .inr (16, [.ref q_1, .ref q_12, .ref q_17, .ref q_22, .ref q_24, .ref q_26, .ref q_28, .ref q_29, .ref q_31, .ref q_33, .ref q_35, .int 0, .ref q_37, .ref q_39, .ref q_41, .ref q_43, .ref q_45, .ref q_47, .ref q_49, .ref q_51, .ref q_53, .ref q_55, .ref q_57, .int 0, .ref q_59, .null, .null, .int 0, .int 0, .int 0, .int 0, .int 0, .null, .int 0, .null, .int 0, .int 0, .int 0, .int 0, .null, .null])), (q_17, .inr (12, [.ref q_18, .ref q_19, .ref q_20, .int 0, .int 0, .ref q_21, .int 0])), (q_21, .inr (18, [.int 0, .ref sx_ed, .int 0])), (q_61, .inl (cA_62, 512, .inl (fun _ => 0)))] := hD
  have hK : va_K (dC, dI) vwP [(cA_62, .int)] s := hK
  refine W.widen (k := 42) (n := 12780) (Nat.le_of_ble_eq_true rfl) (Nat.le_of_ble_eq_true rfl) ?_
  refine va_putF (D := (dC, dI)) (ci := 16) (v := .ref q_61) (ty := .array .int) (C := RX19) (T := TX19) (N := 41) hx hb hts mem_X19_init_2 tyX19 tyX19_ok nmX19 hown hK hP hD hS 0 rfl rfl 25 (by decide) (ow (k := 37) rfl) (fun _ h9 => h9) rfl hin rfl (by decide +kernel) rfl rfl (Nat.le_of_ble_eq_true rfl) dX19_init_207 (fun H locs hP hD hS => ?_)
  have hP : va_P (dC, dI) vwP [(h0, .inr (16, [.ref q_1, .ref q_12, .ref q_17, .ref q_22, .ref q_24, .ref q_26, .ref q_28, .ref q_29, .ref q_31, .ref q_33, .ref q_35, .int 0, .ref q_37, .ref q_39, .ref q_41, .ref q_43, .ref q_45, .ref q_47, .ref q_49, .ref q_51, .ref q_53, .ref q_55, .ref q_57, .int 0, .ref q_59, .ref q_61, .null, .int 0, .int 0, .int 0, .int 0, .int 0, .null, .int 0, .null, .int 0, .int 0, .int 0, .int 0, .null, .null])), (q_17, .inr (12, [.ref q_18, .ref q_19, .ref q_20, .int 0, .int 0, .ref q_21, .int 0])), (q_21, .inr (18, [.int 0, .ref sx_ed, .int 0])), (q_61, .inl (cA_62, 512, .inl (fun _ => 0)))] H := hP
  have hD : va_D A [(h0, .inr (16, [.ref q_1, .ref q_12, .ref q_17, .ref q_22, .ref q_24, .ref q_26, .ref q_28, .ref q_29, .ref q_31, .ref q_33, .ref q_35, .int 0, .ref q_37, .ref q_39, .ref q_41, .ref q_43, .ref q_45, .ref q_47, .ref q_49, .ref q_51, .ref q_53, .ref q_55, .ref q_57, .int 0, .ref q_59, .ref q_61, .null, .int 0, .int 0, .int 0, .int 0, .int 0, .null, .int 0, .null, .int 0, .int 0, .int 0, .int 0, .null, .null])), (q_17, .inr (12, [.ref q_18, .ref q_19, .ref q_20, .int 0, .int 0, .ref q_21, .int 0])), (q_21, .inr (18, [.int 0, .ref sx_ed, .int 0])), (q_61, .inl (cA_62, 512, .inl (fun _ => 0)))] := hD
  have hP := hP.sub (ws' := [(h0, .inr (16, [.ref q_1, .ref q_12, .ref q_17, .ref q_22, .ref q_24, .ref q_26, .ref q_28, .ref q_29, .ref q_31, .ref q_33, .ref q_35, .int 0, .ref q_37, .ref q_39, .ref q_41, .ref q_43, .ref q_45, .ref q_47, .ref q_49, .ref q_51, .ref q_53, .ref q_55, .ref q_57, .int 0, .ref q_59, .ref q_61, .null, .int 0, .int 0, .int 0, .int 0, .int 0, .null, .int 0, .null, .int 0, .int 0, .int 0, .int 0, .null, .null])), (q_17, .inr (12, [.ref q_18, .ref q_19, .ref q_20, .int 0, .int 0, .ref q_21, .int 0])), (q_21, .inr (18, [.int 0, .ref sx_ed, .int 0]))]) [0, 1, 2] rfl
  have hD := hD.sub (ws' := [(h0, .inr (16, [.ref q_1, .ref q_12, .ref q_17, .ref q_22, .ref q_24, .ref q_26, .ref q_28, .ref q_29, .ref q_31, .ref q_33, .ref q_35, .int 0, .ref q_37, .ref q_39, .ref q_41, .ref q_43, .ref q_45, .ref q_47, .ref q_49, .ref q_51, .ref q_53, .ref q_55, .ref q_57, .int 0, .ref q_59, .ref q_61, .null, .int 0, .int 0, .int 0, .int 0, .int 0, .null, .int 0, .null, .int 0, .int 0, .int 0, .int 0, .null, .null])), (q_17, .inr (12, [.ref q_18, .ref q_19, .ref q_20, .int 0, .int 0, .ref q_21, .int 0])), (q_21, .inr (18, [.int 0, .ref sx_ed, .int 0]))]) [0, 1, 2] (by decide) rfl
  have hK := hK.sub (tys' := []) [] rfl
  refine lv_aload_n hx hb dX19_init_210 rfl (lv_at hl 0 rfl) ?_
  refine lv_bipush (v := 64) hx hb dX19_init_211 (by decide) ?_
  refine va_newa (ty := .int) (n := 64) (N' := 64) (a0 := (64, .inl (fun _ => 0))) hx hb (ow (k := 14) rfl) rfl hK hP hD hS hA (fun _ => rfl) (by decide) (by decide) (by decide) (Nat.le_of_ble_eq_true rfl) (Nat.le_of_ble_eq_true rfl) dX19_init_213 (fun q_63 cA_64 H hK hP hD hS => ?_)
  have hP : va_P (dC, dI) vwP [(h0, .inr (16, [.ref q_1, .ref q_12, .ref q_17, .ref q_22, .ref q_24, .ref q_26, .ref q_28, .ref q_29, .ref q_31, .ref q_33, .ref q_35, .int 0, .ref q_37, .ref q_39, .ref q_41, .ref q_43, .ref q_45, .ref q_47, .ref q_49, .ref q_51, .ref q_53, .ref q_55, .ref q_57, .int 0, .ref q_59, .ref q_61, .null, .int 0, .int 0, .int 0, .int 0, .int 0, .null, .int 0, .null, .int 0, .int 0, .int 0, .int 0, .null, .null])), (q_17, .inr (12, [.ref q_18, .ref q_19, .ref q_20, .int 0, .int 0, .ref q_21, .int 0])), (q_21, .inr (18, [.int 0, .ref sx_ed, .int 0])), (q_63, .inl (cA_64, 64, .inl (fun _ => 0)))] H := hP
  have hD : va_D A [(h0, .inr (16, [.ref q_1, .ref q_12, .ref q_17, .ref q_22, .ref q_24, .ref q_26, .ref q_28, .ref q_29, .ref q_31, .ref q_33, .ref q_35, .int 0, .ref q_37, .ref q_39, .ref q_41, .ref q_43, .ref q_45, .ref q_47, .ref q_49, .ref q_51, .ref q_53, .ref q_55, .ref q_57, .int 0, .ref q_59, .ref q_61, .null, .int 0, .int 0, .int 0, .int 0, .int 0, .null, .int 0, .null, .int 0, .int 0, .int 0, .int 0, .null, .null])), (q_17, .inr (12, [.ref q_18, .ref q_19, .ref q_20, .int 0, .int 0, .ref q_21, .int 0])), (q_21, .inr (18, [.int 0, .ref sx_ed, .int 0])), (q_63, .inl (cA_64, 64, .inl (fun _ => 0)))] := hD
  have hK : va_K (dC, dI) vwP [(cA_64, .int)] s := hK
  refine W.widen (k := 43) (n := 12844) (Nat.le_of_ble_eq_true rfl) (Nat.le_of_ble_eq_true rfl) ?_
  refine va_put (D := (dC, dI)) (ci := 16) (v := .ref q_63) (ty := .array .int) (C := RX19) (T := TX19) (N := 41) hx hb hts mem_X19_init_2 tyX19 tyX19_ok nmX19 hown hK hP hD hS 0 rfl rfl 26 (by decide) (ow (k := 38) rfl) (fun _ h9 => h9) rfl (by decide +kernel) rfl rfl (Nat.le_of_ble_eq_true rfl) dX19_init_215 (fun H locs hP hD hS => ?_)
  have hP : va_P (dC, dI) vwP [(h0, .inr (16, [.ref q_1, .ref q_12, .ref q_17, .ref q_22, .ref q_24, .ref q_26, .ref q_28, .ref q_29, .ref q_31, .ref q_33, .ref q_35, .int 0, .ref q_37, .ref q_39, .ref q_41, .ref q_43, .ref q_45, .ref q_47, .ref q_49, .ref q_51, .ref q_53, .ref q_55, .ref q_57, .int 0, .ref q_59, .ref q_61, .ref q_63, .int 0, .int 0, .int 0, .int 0, .int 0, .null, .int 0, .null, .int 0, .int 0, .int 0, .int 0, .null, .null])), (q_17, .inr (12, [.ref q_18, .ref q_19, .ref q_20, .int 0, .int 0, .ref q_21, .int 0])), (q_21, .inr (18, [.int 0, .ref sx_ed, .int 0])), (q_63, .inl (cA_64, 64, .inl (fun _ => 0)))] H := hP
  have hD : va_D A [(h0, .inr (16, [.ref q_1, .ref q_12, .ref q_17, .ref q_22, .ref q_24, .ref q_26, .ref q_28, .ref q_29, .ref q_31, .ref q_33, .ref q_35, .int 0, .ref q_37, .ref q_39, .ref q_41, .ref q_43, .ref q_45, .ref q_47, .ref q_49, .ref q_51, .ref q_53, .ref q_55, .ref q_57, .int 0, .ref q_59, .ref q_61, .ref q_63, .int 0, .int 0, .int 0, .int 0, .int 0, .null, .int 0, .null, .int 0, .int 0, .int 0, .int 0, .null, .null])), (q_17, .inr (12, [.ref q_18, .ref q_19, .ref q_20, .int 0, .int 0, .ref q_21, .int 0])), (q_21, .inr (18, [.int 0, .ref sx_ed, .int 0])), (q_63, .inl (cA_64, 64, .inl (fun _ => 0)))] := hD
  have hP := hP.sub (ws' := [(h0, .inr (16, [.ref q_1, .ref q_12, .ref q_17, .ref q_22, .ref q_24, .ref q_26, .ref q_28, .ref q_29, .ref q_31, .ref q_33, .ref q_35, .int 0, .ref q_37, .ref q_39, .ref q_41, .ref q_43, .ref q_45, .ref q_47, .ref q_49, .ref q_51, .ref q_53, .ref q_55, .ref q_57, .int 0, .ref q_59, .ref q_61, .ref q_63, .int 0, .int 0, .int 0, .int 0, .int 0, .null, .int 0, .null, .int 0, .int 0, .int 0, .int 0, .null, .null])), (q_17, .inr (12, [.ref q_18, .ref q_19, .ref q_20, .int 0, .int 0, .ref q_21, .int 0])), (q_21, .inr (18, [.int 0, .ref sx_ed, .int 0]))]) [0, 1, 2] rfl
  have hD := hD.sub (ws' := [(h0, .inr (16, [.ref q_1, .ref q_12, .ref q_17, .ref q_22, .ref q_24, .ref q_26, .ref q_28, .ref q_29, .ref q_31, .ref q_33, .ref q_35, .int 0, .ref q_37, .ref q_39, .ref q_41, .ref q_43, .ref q_45, .ref q_47, .ref q_49, .ref q_51, .ref q_53, .ref q_55, .ref q_57, .int 0, .ref q_59, .ref q_61, .ref q_63, .int 0, .int 0, .int 0, .int 0, .int 0, .null, .int 0, .null, .int 0, .int 0, .int 0, .int 0, .null, .null])), (q_17, .inr (12, [.ref q_18, .ref q_19, .ref q_20, .int 0, .int 0, .ref q_21, .int 0])), (q_21, .inr (18, [.int 0, .ref sx_ed, .int 0]))]) [0, 1, 2] (by decide) rfl
  have hK := hK.sub (tys' := []) [] rfl
  refine lv_aload_n hx hb dX19_init_218 rfl (lv_at hl 0 rfl) ?_
  refine lv_iconst (v := (-1)) hx hb dX19_init_219 (by decide) ?_
  refine va_put (D := (dC, dI)) (ci := 16) (v := .int (-1)) (ty := .int) (C := RX19) (T := TX19) (N := 41) hx hb hts mem_X19_init_2 tyX19 tyX19_ok nmX19 hown hK hP hD hS 0 rfl rfl 27 (by decide) (ow (k := 39) rfl) (fun _ h9 => h9) rfl (by decide +kernel) rfl rfl (Nat.le_of_ble_eq_true rfl) dX19_init_220 (fun H locs hP hD hS => ?_)
  have hP : va_P (dC, dI) vwP [(h0, .inr (16, [.ref q_1, .ref q_12, .ref q_17, .ref q_22, .ref q_24, .ref q_26, .ref q_28, .ref q_29, .ref q_31, .ref q_33, .ref q_35, .int 0, .ref q_37, .ref q_39, .ref q_41, .ref q_43, .ref q_45, .ref q_47, .ref q_49, .ref q_51, .ref q_53, .ref q_55, .ref q_57, .int 0, .ref q_59, .ref q_61, .ref q_63, .int (-1), .int 0, .int 0, .int 0, .int 0, .null, .int 0, .null, .int 0, .int 0, .int 0, .int 0, .null, .null])), (q_17, .inr (12, [.ref q_18, .ref q_19, .ref q_20, .int 0, .int 0, .ref q_21, .int 0])), (q_21, .inr (18, [.int 0, .ref sx_ed, .int 0]))] H := hP
  have hD : va_D A [(h0, .inr (16, [.ref q_1, .ref q_12, .ref q_17, .ref q_22, .ref q_24, .ref q_26, .ref q_28, .ref q_29, .ref q_31, .ref q_33, .ref q_35, .int 0, .ref q_37, .ref q_39, .ref q_41, .ref q_43, .ref q_45, .ref q_47, .ref q_49, .ref q_51, .ref q_53, .ref q_55, .ref q_57, .int 0, .ref q_59, .ref q_61, .ref q_63, .int (-1), .int 0, .int 0, .int 0, .int 0, .null, .int 0, .null, .int 0, .int 0, .int 0, .int 0, .null, .null])), (q_17, .inr (12, [.ref q_18, .ref q_19, .ref q_20, .int 0, .int 0, .ref q_21, .int 0])), (q_21, .inr (18, [.int 0, .ref sx_ed, .int 0]))] := hD
  refine lv_aload_n hx hb dX19_init_223 rfl (lv_at hl 0 rfl) ?_
  refine va_new (ci := 17) (fs := [.null, .int 0, .int 0, .int 0]) (C := RJ4) (T := TJ4) (N := 4) hx hb hts mem_X19_init_5 tyJ4 tyJ4_ok hown (ow (k := 40) rfl) (ow (k := 41) rfl) (ow (k := 42) rfl) hK hP hD hS hA rfl (df_J4) (Nat.le_of_ble_eq_true rfl) (Nat.le_of_ble_eq_true rfl) dX19_init_224 (fun q_65 H hP hD hS => ?_)
  have hP : va_P (dC, dI) vwP [(h0, .inr (16, [.ref q_1, .ref q_12, .ref q_17, .ref q_22, .ref q_24, .ref q_26, .ref q_28, .ref q_29, .ref q_31, .ref q_33, .ref q_35, .int 0, .ref q_37, .ref q_39, .ref q_41, .ref q_43, .ref q_45, .ref q_47, .ref q_49, .ref q_51, .ref q_53, .ref q_55, .ref q_57, .int 0, .ref q_59, .ref q_61, .ref q_63, .int (-1), .int 0, .int 0, .int 0, .int 0, .null, .int 0, .null, .int 0, .int 0, .int 0, .int 0, .null, .null])), (q_17, .inr (12, [.ref q_18, .ref q_19, .ref q_20, .int 0, .int 0, .ref q_21, .int 0])), (q_21, .inr (18, [.int 0, .ref sx_ed, .int 0])), (q_65, .inr (17, [.null, .int 0, .int 0, .int 0]))] H := hP
  have hD : va_D A [(h0, .inr (16, [.ref q_1, .ref q_12, .ref q_17, .ref q_22, .ref q_24, .ref q_26, .ref q_28, .ref q_29, .ref q_31, .ref q_33, .ref q_35, .int 0, .ref q_37, .ref q_39, .ref q_41, .ref q_43, .ref q_45, .ref q_47, .ref q_49, .ref q_51, .ref q_53, .ref q_55, .ref q_57, .int 0, .ref q_59, .ref q_61, .ref q_63, .int (-1), .int 0, .int 0, .int 0, .int 0, .null, .int 0, .null, .int 0, .int 0, .int 0, .int 0, .null, .null])), (q_17, .inr (12, [.ref q_18, .ref q_19, .ref q_20, .int 0, .int 0, .ref q_21, .int 0])), (q_21, .inr (18, [.int 0, .ref sx_ed, .int 0])), (q_65, .inr (17, [.null, .int 0, .int 0, .int 0]))] := hD
  refine W.widen (k := 44) (n := 12848) (Nat.le_of_ble_eq_true rfl) (Nat.le_of_ble_eq_true rfl) ?_
  refine lv_dup hx hb dX19_init_227 rfl ?_
  have hPc := hP.sub (ws' := [(q_65, .inr (17, [.null, .int 0, .int 0, .int 0]))]) [3] rfl
  have hDc := hD.sub (ws' := [(q_65, .inr (17, [.null, .int 0, .int 0, .int 0]))]) [3] (by decide) rfl
  have hKc := hK.sub (tys' := []) [] rfl
  have hFc := va_free (wc := [(q_65, .inr (17, [.null, .int 0, .int 0, .int 0]))]) hD hS hA [3] rfl
  refine va_callv (va_runI (As := []) (rest := [.ref q_65, .ref h0]) ⟨hx, hb, hml, hown, hts⟩ (c_J4_init l dC dI q_65 H.size) (cwI 0 hts (goodIn_sub mem_X19_init_6 gw_J4_init) rfl rfl rfl (ow (k := 42) rfl) (ow (k := 43) rfl) (ow (k := 44) rfl) rfl (by decide +kernel) ⟨(Nat.le_of_ble_eq_true rfl), (Nat.le_of_ble_eq_true rfl)⟩) ⟨fun a U g mk q => by obtain ⟨q0, q1, qP, qK, qD, e0⟩ := q; exact ⟨q0, q1, qP, va_K.moved (u := U) (U := U.calling g mk a) (Vm.Alike.refl U.vm) qK, qD, va_Z.moved (u := U) (U := U.calling g mk a) (Vm.Alike.refl U.vm) e0⟩, fun U hU hW => ⟨rfl, by rw [hU], by rw [hU]; exact hPc, va_K.moved hW.alike hKc, hDc.weaken (fun _ _ _ _ => trivial), by rw [hU]; exact va_Z.narrow (va_Z.moved hW.alike (va_Z.kept hp5 hS.2.1)) hFc⟩⟩ rfl rfl hl.1 rfl (lv_room (Nat.le_of_ble_eq_true rfl)) dX19_init_228 ⟨(Nat.le_of_ble_eq_true rfl), (Nat.le_of_ble_eq_true rfl)⟩) hS (fun q _ h => hFc q h) hFc (fun  u t H1 locs ht hvm hw hB hz1 hk1 hS => ?_)
  obtain ⟨q_66, cA_67, hP1, hK1, hD1⟩ := hB
  rw [ht] at hP1
  have hK1 := va_K.moved hvm.symm hK1
  obtain ⟨hP, hD⟩ := va_join (wr := [(h0, .inr (16, [.ref q_1, .ref q_12, .ref q_17, .ref q_22, .ref q_24, .ref q_26, .ref q_28, .ref q_29, .ref q_31, .ref q_33, .ref q_35, .int 0, .ref q_37, .ref q_39, .ref q_41, .ref q_43, .ref q_45, .ref q_47, .ref q_49, .ref q_51, .ref q_53, .ref q_55, .ref q_57, .int 0, .ref q_59, .ref q_61, .ref q_63, .int (-1), .int 0, .int 0, .int 0, .int 0, .null, .int 0, .null, .int 0, .int 0, .int 0, .int 0, .null, .null])), (q_17, .inr (12, [.ref q_18, .ref q_19, .ref q_20, .int 0, .int 0, .ref q_21, .int 0])), (q_21, .inr (18, [.int 0, .ref sx_ed, .int 0]))]) (w1 := [(q_65, .inr (17, [.ref q_66, .int 0, .int 0, .int 0])), (q_66, .inl (cA_67, 16, .inl (fun _ => 0)))]) hP hD [3] [0, 1, 2] rfl rfl (by decide) (by decide) hk1 hFc hP1 hD1
  have hK := (hK.sub (tys' := []) [] rfl).app hK1
  generalize H1 = H at hP hS ⊢
  have hP : va_P (dC, dI) vwP [(h0, .inr (16, [.ref q_1, .ref q_12, .ref q_17, .ref q_22, .ref q_24, .ref q_26, .ref q_28, .ref q_29, .ref q_31, .ref q_33, .ref q_35, .int 0, .ref q_37, .ref q_39, .ref q_41, .ref q_43, .ref q_45, .ref q_47, .ref q_49, .ref q_51, .ref q_53, .ref q_55, .ref q_57, .int 0, .ref q_59, .ref q_61, .ref q_63, .int (-1), .int 0, .int 0, .int 0, .int 0, .null, .int 0, .null, .int 0, .int 0, .int 0, .int 0, .null, .null])), (q_17, .inr (12, [.ref q_18, .ref q_19, .ref q_20, .int 0, .int 0, .ref q_21, .int 0])), (q_21, .inr (18, [.int 0, .ref sx_ed, .int 0])), (q_65, .inr (17, [.ref q_66, .int 0, .int 0, .int 0])), (q_66, .inl (cA_67, 16, .inl (fun _ => 0)))] H := hP
  have hD : va_D A [(h0, .inr (16, [.ref q_1, .ref q_12, .ref q_17, .ref q_22, .ref q_24, .ref q_26, .ref q_28, .ref q_29, .ref q_31, .ref q_33, .ref q_35, .int 0, .ref q_37, .ref q_39, .ref q_41, .ref q_43, .ref q_45, .ref q_47, .ref q_49, .ref q_51, .ref q_53, .ref q_55, .ref q_57, .int 0, .ref q_59, .ref q_61, .ref q_63, .int (-1), .int 0, .int 0, .int 0, .int 0, .null, .int 0, .null, .int 0, .int 0, .int 0, .int 0, .null, .null])), (q_17, .inr (12, [.ref q_18, .ref q_19, .ref q_20, .int 0, .int 0, .ref q_21, .int 0])), (q_21, .inr (18, [.int 0, .ref sx_ed, .int 0])), (q_65, .inr (17, [.ref q_66, .int 0, .int 0, .int 0])), (q_66, .inl (cA_67, 16, .inl (fun _ => 0)))] := hD
  have hK : va_K (dC, dI) vwP [(cA_67, .byte)] s := hK
  refine W.widen (k := 45) (n := 12864) (Nat.le_of_ble_eq_true rfl) (Nat.le_of_ble_eq_true rfl) ?_
  refine va_putF (D := (dC, dI)) (ci := 16) (v := .ref q_65) (ty := .object "java/lang/StringBuilder") (C := RX19) (T := TX19) (N := 41) hx hb hts mem_X19_init_2 tyX19 tyX19_ok nmX19 hown hK hP hD hS 0 rfl rfl 32 (by decide) (ow (k := 45) rfl) (fun _ h9 => h9) rfl hin rfl (by decide +kernel) rfl rfl (Nat.le_of_ble_eq_true rfl) dX19_init_231 (fun H locs hP hD hS => ?_)
  have hP : va_P (dC, dI) vwP [(h0, .inr (16, [.ref q_1, .ref q_12, .ref q_17, .ref q_22, .ref q_24, .ref q_26, .ref q_28, .ref q_29, .ref q_31, .ref q_33, .ref q_35, .int 0, .ref q_37, .ref q_39, .ref q_41, .ref q_43, .ref q_45, .ref q_47, .ref q_49, .ref q_51, .ref q_53, .ref q_55, .ref q_57, .int 0, .ref q_59, .ref q_61, .ref q_63, .int (-1), .int 0, .int 0, .int 0, .int 0, .ref q_65, .int 0, .null, .int 0, .int 0, .int 0, .int 0, .null, .null])), (q_17, .inr (12, [.ref q_18, .ref q_19, .ref q_20, .int 0, .int 0, .ref q_21, .int 0])), (q_21, .inr (18, [.int 0, .ref sx_ed, .int 0])), (q_65, .inr (17, [.ref q_66, .int 0, .int 0, .int 0])), (q_66, .inl (cA_67, 16, .inl (fun _ => 0)))] H := hP
  have hD : va_D A [(h0, .inr (16, [.ref q_1, .ref q_12, .ref q_17, .ref q_22, .ref q_24, .ref q_26, .ref q_28, .ref q_29, .ref q_31, .ref q_33, .ref q_35, .int 0, .ref q_37, .ref q_39, .ref q_41, .ref q_43, .ref q_45, .ref q_47, .ref q_49, .ref q_51, .ref q_53, .ref q_55, .ref q_57, .int 0, .ref q_59, .ref q_61, .ref q_63, .int (-1), .int 0, .int 0, .int 0, .int 0, .ref q_65, .int 0, .null, .int 0, .int 0, .int 0, .int 0, .null, .null])), (q_17, .inr (12, [.ref q_18, .ref q_19, .ref q_20, .int 0, .int 0, .ref q_21, .int 0])), (q_21, .inr (18, [.int 0, .ref sx_ed, .int 0])), (q_65, .inr (17, [.ref q_66, .int 0, .int 0, .int 0])), (q_66, .inl (cA_67, 16, .inl (fun _ => 0)))] := hD
  have hP := hP.sub (ws' := [(h0, .inr (16, [.ref q_1, .ref q_12, .ref q_17, .ref q_22, .ref q_24, .ref q_26, .ref q_28, .ref q_29, .ref q_31, .ref q_33, .ref q_35, .int 0, .ref q_37, .ref q_39, .ref q_41, .ref q_43, .ref q_45, .ref q_47, .ref q_49, .ref q_51, .ref q_53, .ref q_55, .ref q_57, .int 0, .ref q_59, .ref q_61, .ref q_63, .int (-1), .int 0, .int 0, .int 0, .int 0, .ref q_65, .int 0, .null, .int 0, .int 0, .int 0, .int 0, .null, .null])), (q_17, .inr (12, [.ref q_18, .ref q_19, .ref q_20, .int 0, .int 0, .ref q_21, .int 0])), (q_21, .inr (18, [.int 0, .ref sx_ed, .int 0]))]) [0, 1, 2] rfl
  have hD := hD.sub (ws' := [(h0, .inr (16, [.ref q_1, .ref q_12, .ref q_17, .ref q_22, .ref q_24, .ref q_26, .ref q_28, .ref q_29, .ref q_31, .ref q_33, .ref q_35, .int 0, .ref q_37, .ref q_39, .ref q_41, .ref q_43, .ref q_45, .ref q_47, .ref q_49, .ref q_51, .ref q_53, .ref q_55, .ref q_57, .int 0, .ref q_59, .ref q_61, .ref q_63, .int (-1), .int 0, .int 0, .int 0, .int 0, .ref q_65, .int 0, .null, .int 0, .int 0, .int 0, .int 0, .null, .null])), (q_17, .inr (12, [.ref q_18, .ref q_19, .ref q_20, .int 0, .int 0, .ref q_21, .int 0])), (q_21, .inr (18, [.int 0, .ref sx_ed, .int 0]))]) [0, 1, 2] (by decide) rfl
  have hK := hK.sub (tys' := []) [] rfl
  refine lv_aload_n hx hb dX19_init_234 rfl (lv_at hl 0 rfl) ?_
  refine lv_sipush (v := 8192) hx hb dX19_init_235 (by decide) ?_
  refine va_newa (ty := .byte) (n := 8192) (N' := 8192) (a0 := (8192, .inl (fun _ => 0))) hx hb (ow (k := 46) rfl) rfl hK hP hD hS hA (fun _ => rfl) (by decide) (by decide) (by decide) (Nat.le_of_ble_eq_true rfl) (Nat.le_of_ble_eq_true rfl) dX19_init_238 (fun q_68 cA_69 H hK hP hD hS => ?_)
  have hP : va_P (dC, dI) vwP [(h0, .inr (16, [.ref q_1, .ref q_12, .ref q_17, .ref q_22, .ref q_24, .ref q_26, .ref q_28, .ref q_29, .ref q_31, .ref q_33, .ref q_35, .int 0, .ref q_37, .ref q_39, .ref q_41, .ref q_43, .ref q_45, .ref q_47, .ref q_49, .ref q_51, .ref q_53, .ref q_55, .ref q_57, .int 0, .ref q_59, .ref q_61, .ref q_63, .int (-1), .int 0, .int 0, .int 0, .int 0, .ref q_65, .int 0, .null, .int 0, .int 0, .int 0, .int 0, .null, .null])), (q_17, .inr (12, [.ref q_18, .ref q_19, .ref q_20, .int 0, .int 0, .ref q_21, .int 0])), (q_21, .inr (18, [.int 0, .ref sx_ed, .int 0])), (q_68, .inl (cA_69, 8192, .inl (fun _ => 0)))] H := hP
  have hD : va_D A [(h0, .inr (16, [.ref q_1, .ref q_12, .ref q_17, .ref q_22, .ref q_24, .ref q_26, .ref q_28, .ref q_29, .ref q_31, .ref q_33, .ref q_35, .int 0, .ref q_37, .ref q_39, .ref q_41, .ref q_43, .ref q_45, .ref q_47, .ref q_49, .ref q_51, .ref q_53, .ref q_55, .ref q_57, .int 0, .ref q_59, .ref q_61, .ref q_63, .int (-1), .int 0, .int 0, .int 0, .int 0, .ref q_65, .int 0, .null, .int 0, .int 0, .int 0, .int 0, .null, .null])), (q_17, .inr (12, [.ref q_18, .ref q_19, .ref q_20, .int 0, .int 0, .ref q_21, .int 0])), (q_21, .inr (18, [.int 0, .ref sx_ed, .int 0])), (q_68, .inl (cA_69, 8192, .inl (fun _ => 0)))] := hD
  have hK : va_K (dC, dI) vwP [(cA_69, .byte)] s := hK
  refine W.widen (k := 46) (n := 21056) (Nat.le_of_ble_eq_true rfl) (Nat.le_of_ble_eq_true rfl) ?_
  refine va_putF (D := (dC, dI)) (ci := 16) (v := .ref q_68) (ty := .array .byte) (C := RX19) (T := TX19) (N := 41) hx hb hts mem_X19_init_2 tyX19 tyX19_ok nmX19 hown hK hP hD hS 0 rfl rfl 34 (by decide) (ow (k := 47) rfl) (fun _ h9 => h9) rfl hin rfl (by decide +kernel) rfl rfl (Nat.le_of_ble_eq_true rfl) dX19_init_240 (fun H locs hP hD hS => ?_)
  have hP : va_P (dC, dI) vwP [(h0, .inr (16, [.ref q_1, .ref q_12, .ref q_17, .ref q_22, .ref q_24, .ref q_26, .ref q_28, .ref q_29, .ref q_31, .ref q_33, .ref q_35, .int 0, .ref q_37, .ref q_39, .ref q_41, .ref q_43, .ref q_45, .ref q_47, .ref q_49, .ref q_51, .ref q_53, .ref q_55, .ref q_57, .int 0, .ref q_59, .ref q_61, .ref q_63, .int (-1), .int 0, .int 0, .int 0, .int 0, .ref q_65, .int 0, .ref q_68, .int 0, .int 0, .int 0, .int 0, .null, .null])), (q_17, .inr (12, [.ref q_18, .ref q_19, .ref q_20, .int 0, .int 0, .ref q_21, .int 0])), (q_21, .inr (18, [.int 0, .ref sx_ed, .int 0])), (q_68, .inl (cA_69, 8192, .inl (fun _ => 0)))] H := hP
  have hD : va_D A [(h0, .inr (16, [.ref q_1, .ref q_12, .ref q_17, .ref q_22, .ref q_24, .ref q_26, .ref q_28, .ref q_29, .ref q_31, .ref q_33, .ref q_35, .int 0, .ref q_37, .ref q_39, .ref q_41, .ref q_43, .ref q_45, .ref q_47, .ref q_49, .ref q_51, .ref q_53, .ref q_55, .ref q_57, .int 0, .ref q_59, .ref q_61, .ref q_63, .int (-1), .int 0, .int 0, .int 0, .int 0, .ref q_65, .int 0, .ref q_68, .int 0, .int 0, .int 0, .int 0, .null, .null])), (q_17, .inr (12, [.ref q_18, .ref q_19, .ref q_20, .int 0, .int 0, .ref q_21, .int 0])), (q_21, .inr (18, [.int 0, .ref sx_ed, .int 0])), (q_68, .inl (cA_69, 8192, .inl (fun _ => 0)))] := hD
  refine lv_aload_n hx hb dX19_init_243 rfl (lv_at hl 0 rfl) ?_
  refine lv_iconst (v := (-1)) hx hb dX19_init_244 (by decide) ?_
  refine va_put (D := (dC, dI)) (ci := 16) (v := .int (-1)) (ty := .int) (C := RX19) (T := TX19) (N := 41) hx hb hts mem_X19_init_2 tyX19 tyX19_ok nmX19 hown hK hP hD hS 0 rfl rfl 36 (by decide) (ow (k := 48) rfl) (fun _ h9 => h9) rfl (by decide +kernel) rfl rfl (Nat.le_of_ble_eq_true rfl) dX19_init_245 (fun H locs hP hD hS => ?_)
  have hP : va_P (dC, dI) vwP [(h0, .inr (16, [.ref q_1, .ref q_12, .ref q_17, .ref q_22, .ref q_24, .ref q_26, .ref q_28, .ref q_29, .ref q_31, .ref q_33, .ref q_35, .int 0, .ref q_37, .ref q_39, .ref q_41, .ref q_43, .ref q_45, .ref q_47, .ref q_49, .ref q_51, .ref q_53, .ref q_55, .ref q_57, .int 0, .ref q_59, .ref q_61, .ref q_63, .int (-1), .int 0, .int 0, .int 0, .int 0, .ref q_65, .int 0, .ref q_68, .int 0, .int (-1), .int 0, .int 0, .null, .null])), (q_17, .inr (12, [.ref q_18, .ref q_19, .ref q_20, .int 0, .int 0, .ref q_21, .int 0])), (q_21, .inr (18, [.int 0, .ref sx_ed, .int 0])), (q_68, .inl (cA_69, 8192, .inl (fun _ => 0)))] H := hP
  have hD : va_D A [(h0, .inr (16, [.ref q_1, .ref q_12, .ref q_17, .ref q_22, .ref q_24, .ref q_26, .ref q_28, .ref q_29, .ref q_31, .ref q_33, .ref q_35, .int 0, .ref q_37, .ref q_39, .ref q_41, .ref q_43, .ref q_45, .ref q_47, .ref q_49, .ref q_51, .ref q_53, .ref q_55, .ref q_57, .int 0, .ref q_59, .ref q_61, .ref q_63, .int (-1), .int 0, .int 0, .int 0, .int 0, .ref q_65, .int 0, .ref q_68, .int 0, .int (-1), .int 0, .int 0, .null, .null])), (q_17, .inr (12, [.ref q_18, .ref q_19, .ref q_20, .int 0, .int 0, .ref q_21, .int 0])), (q_21, .inr (18, [.int 0, .ref sx_ed, .int 0])), (q_68, .inl (cA_69, 8192, .inl (fun _ => 0)))] := hD
  refine lv_aload_n hx hb dX19_init_248 rfl (lv_at hl 0 rfl) ?_
  refine lv_bipush (v := 64) hx hb dX19_init_249 (by decide) ?_
  refine va_newa (ty := .byte) (n := 64) (N' := 64) (a0 := (64, .inl (fun _ => 0))) hx hb (ow (k := 46) rfl) rfl hK hP hD hS hA (fun _ => rfl) (by decide) (by decide) (by decide) (Nat.le_of_ble_eq_true rfl) (Nat.le_of_ble_eq_true rfl) dX19_init_251 (fun q_70 cA_71 H hK hP hD hS => ?_)
  have hP : va_P (dC, dI) vwP [(h0, .inr (16, [.ref q_1, .ref q_12, .ref q_17, .ref q_22, .ref q_24, .ref q_26, .ref q_28, .ref q_29, .ref q_31, .ref q_33, .ref q_35, .int 0, .ref q_37, .ref q_39, .ref q_41, .ref q_43, .ref q_45, .ref q_47, .ref q_49, .ref q_51, .ref q_53, .ref q_55, .ref q_57, .int 0, .ref q_59, .ref q_61, .ref q_63, .int (-1), .int 0, .int 0, .int 0, .int 0, .ref q_65, .int 0, .ref q_68, .int 0, .int (-1), .int 0, .int 0, .null, .null])), (q_17, .inr (12, [.ref q_18, .ref q_19, .ref q_20, .int 0, .int 0, .ref q_21, .int 0])), (q_21, .inr (18, [.int 0, .ref sx_ed, .int 0])), (q_68, .inl (cA_69, 8192, .inl (fun _ => 0))), (q_70, .inl (cA_71, 64, .inl (fun _ => 0)))] H := hP
  have hD : va_D A [(h0, .inr (16, [.ref q_1, .ref q_12, .ref q_17, .ref q_22, .ref q_24, .ref q_26, .ref q_28, .ref q_29, .ref q_31, .ref q_33, .ref q_35, .int 0, .ref q_37, .ref q_39, .ref q_41, .ref q_43, .ref q_45, .ref q_47, .ref q_49, .ref q_51, .ref q_53, .ref q_55, .ref q_57, .int 0, .ref q_59, .ref q_61, .ref q_63, .int (-1), .int 0, .int 0, .int 0, .int 0, .ref q_65, .int 0, .ref q_68, .int 0, .int (-1), .int 0, .int 0, .null, .null])), (q_17, .inr (12, [.ref q_18, .ref q_19, .ref q_20, .int 0, .int 0, .ref q_21, .int 0])), (q_21, .inr (18, [.int 0, .ref sx_ed, .int 0])), (q_68, .inl (cA_69, 8192, .inl (fun _ => 0))), (q_70, .inl (cA_71, 64, .inl (fun _ => 0)))] := hD
  have hK : va_K (dC, dI) vwP [(cA_69, .byte), (cA_71, .byte)] s := hK
  refine W.widen (k := 47) (n := 21120) (Nat.le_of_ble_eq_true rfl) (Nat.le_of_ble_eq_true rfl) ?_
  refine va_put (D := (dC, dI)) (ci := 16) (v := .ref q_70) (ty := .array .byte) (C := RX19) (T := TX19) (N := 41) hx hb hts mem_X19_init_2 tyX19 tyX19_ok nmX19 hown hK hP hD hS 0 rfl rfl 39 (by decide) (ow (k := 49) rfl) (fun _ h9 => h9) rfl (by decide +kernel) rfl rfl (Nat.le_of_ble_eq_true rfl) dX19_init_253 (fun H locs hP hD hS => ?_)
  have hP : va_P (dC, dI) vwP [(h0, .inr (16, [.ref q_1, .ref q_12, .ref q_17, .ref q_22, .ref q_24, .ref q_26, .ref q_28, .ref q_29, .ref q_31, .ref q_33, .ref q_35, .int 0, .ref q_37, .ref q_39, .ref q_41, .ref q_43, .ref q_45, .ref q_47, .ref q_49, .ref q_51, .ref q_53, .ref q_55, .ref q_57, .int 0, .ref q_59, .ref q_61, .ref q_63, .int (-1), .int 0, .int 0, .int 0, .int 0, .ref q_65, .int 0, .ref q_68, .int 0, .int (-1), .int 0, .int 0, .ref q_70, .null])), (q_17, .inr (12, [.ref q_18, .ref q_19, .ref q_20, .int 0, .int 0, .ref q_21, .int 0])), (q_21, .inr (18, [.int 0, .ref sx_ed, .int 0])), (q_68, .inl (cA_69, 8192, .inl (fun _ => 0))), (q_70, .inl (cA_71, 64, .inl (fun _ => 0)))] H := hP
  have hD : va_D A [(h0, .inr (16, [.ref q_1, .ref q_12, .ref q_17, .ref q_22, .ref q_24, .ref q_26, .ref q_28, .ref q_29, .ref q_31, .ref q_33, .ref q_35, .int 0, .ref q_37, .ref q_39, .ref q_41, .ref q_43, .ref q_45, .ref q_47, .ref q_49, .ref q_51, .ref q_53, .ref q_55, .ref q_57, .int 0, .ref q_59, .ref q_61, .ref q_63, .int (-1), .int 0, .int 0, .int 0, .int 0, .ref q_65, .int 0, .ref q_68, .int 0, .int (-1), .int 0, .int 0, .ref q_70, .null])), (q_17, .inr (12, [.ref q_18, .ref q_19, .ref q_20, .int 0, .int 0, .ref q_21, .int 0])), (q_21, .inr (18, [.int 0, .ref sx_ed, .int 0])), (q_68, .inl (cA_69, 8192, .inl (fun _ => 0))), (q_70, .inl (cA_71, 64, .inl (fun _ => 0)))] := hD
  have hP := hP.sub (ws' := [(h0, .inr (16, [.ref q_1, .ref q_12, .ref q_17, .ref q_22, .ref q_24, .ref q_26, .ref q_28, .ref q_29, .ref q_31, .ref q_33, .ref q_35, .int 0, .ref q_37, .ref q_39, .ref q_41, .ref q_43, .ref q_45, .ref q_47, .ref q_49, .ref q_51, .ref q_53, .ref q_55, .ref q_57, .int 0, .ref q_59, .ref q_61, .ref q_63, .int (-1), .int 0, .int 0, .int 0, .int 0, .ref q_65, .int 0, .ref q_68, .int 0, .int (-1), .int 0, .int 0, .ref q_70, .null])), (q_17, .inr (12, [.ref q_18, .ref q_19, .ref q_20, .int 0, .int 0, .ref q_21, .int 0])), (q_21, .inr (18, [.int 0, .ref sx_ed, .int 0])), (q_68, .inl (cA_69, 8192, .inl (fun _ => 0)))]) [0, 1, 2, 3] rfl
  have hD := hD.sub (ws' := [(h0, .inr (16, [.ref q_1, .ref q_12, .ref q_17, .ref q_22, .ref q_24, .ref q_26, .ref q_28, .ref q_29, .ref q_31, .ref q_33, .ref q_35, .int 0, .ref q_37, .ref q_39, .ref q_41, .ref q_43, .ref q_45, .ref q_47, .ref q_49, .ref q_51, .ref q_53, .ref q_55, .ref q_57, .int 0, .ref q_59, .ref q_61, .ref q_63, .int (-1), .int 0, .int 0, .int 0, .int 0, .ref q_65, .int 0, .ref q_68, .int 0, .int (-1), .int 0, .int 0, .ref q_70, .null])), (q_17, .inr (12, [.ref q_18, .ref q_19, .ref q_20, .int 0, .int 0, .ref q_21, .int 0])), (q_21, .inr (18, [.int 0, .ref sx_ed, .int 0])), (q_68, .inl (cA_69, 8192, .inl (fun _ => 0)))]) [0, 1, 2, 3] (by decide) rfl
  have hK := hK.sub (tys' := [(cA_69, .byte)]) [0] rfl
  refine lv_aload_n hx hb dX19_init_256 rfl (lv_at hl 0 rfl) ?_
  refine lv_iconst (v := 0) hx hb dX19_init_257 (by decide) ?_
  refine va_newa (ty := .int) (n := 0) (N' := 0) (a0 := (0, .inl (fun _ => 0))) hx hb (ow (k := 14) rfl) rfl hK hP hD hS hA (fun _ => rfl) (by decide) (by decide) (by decide) (Nat.le_of_ble_eq_true rfl) (Nat.le_of_ble_eq_true rfl) dX19_init_258 (fun q_72 cA_73 H hK hP hD hS => ?_)
  have hP : va_P (dC, dI) vwP [(h0, .inr (16, [.ref q_1, .ref q_12, .ref q_17, .ref q_22, .ref q_24, .ref q_26, .ref q_28, .ref q_29, .ref q_31, .ref q_33, .ref q_35, .int 0, .ref q_37, .ref q_39, .ref q_41, .ref q_43, .ref q_45, .ref q_47, .ref q_49, .ref q_51, .ref q_53, .ref q_55, .ref q_57, .int 0, .ref q_59, .ref q_61, .ref q_63, .int (-1), .int 0, .int 0, .int 0, .int 0, .ref q_65, .int 0, .ref q_68, .int 0, .int (-1), .int 0, .int 0, .ref q_70, .null])), (q_17, .inr (12, [.ref q_18, .ref q_19, .ref q_20, .int 0, .int 0, .ref q_21, .int 0])), (q_21, .inr (18, [.int 0, .ref sx_ed, .int 0])), (q_68, .inl (cA_69, 8192, .inl (fun _ => 0))), (q_72, .inl (cA_73, 0, .inl (fun _ => 0)))] H := hP
  have hD : va_D A [(h0, .inr (16, [.ref q_1, .ref q_12, .ref q_17, .ref q_22, .ref q_24, .ref q_26, .ref q_28, .ref q_29, .ref q_31, .ref q_33, .ref q_35, .int 0, .ref q_37, .ref q_39, .ref q_41, .ref q_43, .ref q_45, .ref q_47, .ref q_49, .ref q_51, .ref q_53, .ref q_55, .ref q_57, .int 0, .ref q_59, .ref q_61, .ref q_63, .int (-1), .int 0, .int 0, .int 0, .int 0, .ref q_65, .int 0, .ref q_68, .int 0, .int (-1), .int 0, .int 0, .ref q_70, .null])), (q_17, .inr (12, [.ref q_18, .ref q_19, .ref q_20, .int 0, .int 0, .ref q_21, .int 0])), (q_21, .inr (18, [.int 0, .ref sx_ed, .int 0])), (q_68, .inl (cA_69, 8192, .inl (fun _ => 0))), (q_72, .inl (cA_73, 0, .inl (fun _ => 0)))] := hD
  have hK : va_K (dC, dI) vwP [(cA_69, .byte), (cA_73, .int)] s := hK
  refine W.widen (k := 48) (n := 21120) (Nat.le_of_ble_eq_true rfl) (Nat.le_of_ble_eq_true rfl) ?_
  refine va_put (D := (dC, dI)) (ci := 16) (v := .ref q_72) (ty := .array .int) (C := RX19) (T := TX19) (N := 41) hx hb hts mem_X19_init_2 tyX19 tyX19_ok nmX19 hown hK hP hD hS 0 rfl rfl 40 (by decide) (ow (k := 50) rfl) (fun _ h9 => h9) rfl (by decide +kernel) rfl rfl (Nat.le_of_ble_eq_true rfl) dX19_init_260 (fun H locs hP hD hS => ?_)
  have hP : va_P (dC, dI) vwP [(h0, .inr (16, [.ref q_1, .ref q_12, .ref q_17, .ref q_22, .ref q_24, .ref q_26, .ref q_28, .ref q_29, .ref q_31, .ref q_33, .ref q_35, .int 0, .ref q_37, .ref q_39, .ref q_41, .ref q_43, .ref q_45, .ref q_47, .ref q_49, .ref q_51, .ref q_53, .ref q_55, .ref q_57, .int 0, .ref q_59, .ref q_61, .ref q_63, .int (-1), .int 0, .int 0, .int 0, .int 0, .ref q_65, .int 0, .ref q_68, .int 0, .int (-1), .int 0, .int 0, .ref q_70, .ref q_72])), (q_17, .inr (12, [.ref q_18, .ref q_19, .ref q_20, .int 0, .int 0, .ref q_21, .int 0])), (q_21, .inr (18, [.int 0, .ref sx_ed, .int 0])), (q_68, .inl (cA_69, 8192, .inl (fun _ => 0))), (q_72, .inl (cA_73, 0, .inl (fun _ => 0)))] H := hP
  have hD : va_D A [(h0, .inr (16, [.ref q_1, .ref q_12, .ref q_17, .ref q_22, .ref q_24, .ref q_26, .ref q_28, .ref q_29, .ref q_31, .ref q_33, .ref q_35, .int 0, .ref q_37, .ref q_39, .ref q_41, .ref q_43, .ref q_45, .ref q_47, .ref q_49, .ref q_51, .ref q_53, .ref q_55, .ref q_57, .int 0, .ref q_59, .ref q_61, .ref q_63, .int (-1), .int 0, .int 0, .int 0, .int 0, .ref q_65, .int 0, .ref q_68, .int 0, .int (-1), .int 0, .int 0, .ref q_70, .ref q_72])), (q_17, .inr (12, [.ref q_18, .ref q_19, .ref q_20, .int 0, .int 0, .ref q_21, .int 0])), (q_21, .inr (18, [.int 0, .ref sx_ed, .int 0])), (q_68, .inl (cA_69, 8192, .inl (fun _ => 0))), (q_72, .inl (cA_73, 0, .inl (fun _ => 0)))] := hD
  have hP := hP.sub (ws' := [(h0, .inr (16, [.ref q_1, .ref q_12, .ref q_17, .ref q_22, .ref q_24, .ref q_26, .ref q_28, .ref q_29, .ref q_31, .ref q_33, .ref q_35, .int 0, .ref q_37, .ref q_39, .ref q_41, .ref q_43, .ref q_45, .ref q_47, .ref q_49, .ref q_51, .ref q_53, .ref q_55, .ref q_57, .int 0, .ref q_59, .ref q_61, .ref q_63, .int (-1), .int 0, .int 0, .int 0, .int 0, .ref q_65, .int 0, .ref q_68, .int 0, .int (-1), .int 0, .int 0, .ref q_70, .ref q_72])), (q_17, .inr (12, [.ref q_18, .ref q_19, .ref q_20, .int 0, .int 0, .ref q_21, .int 0])), (q_21, .inr (18, [.int 0, .ref sx_ed, .int 0])), (q_68, .inl (cA_69, 8192, .inl (fun _ => 0)))]) [0, 1, 2, 3] rfl
  have hD := hD.sub (ws' := [(h0, .inr (16, [.ref q_1, .ref q_12, .ref q_17, .ref q_22, .ref q_24, .ref q_26, .ref q_28, .ref q_29, .ref q_31, .ref q_33, .ref q_35, .int 0, .ref q_37, .ref q_39, .ref q_41, .ref q_43, .ref q_45, .ref q_47, .ref q_49, .ref q_51, .ref q_53, .ref q_55, .ref q_57, .int 0, .ref q_59, .ref q_61, .ref q_63, .int (-1), .int 0, .int 0, .int 0, .int 0, .ref q_65, .int 0, .ref q_68, .int 0, .int (-1), .int 0, .int 0, .ref q_70, .ref q_72])), (q_17, .inr (12, [.ref q_18, .ref q_19, .ref q_20, .int 0, .int 0, .ref q_21, .int 0])), (q_21, .inr (18, [.int 0, .ref sx_ed, .int 0])), (q_68, .inl (cA_69, 8192, .inl (fun _ => 0)))]) [0, 1, 2, 3] (by decide) rfl
  have hK := hK.sub (tys' := [(cA_69, .byte)]) [0] rfl
  refine W.widen (k := 48) (n := 21120) (Nat.le_of_ble_eq_true rfl) (Nat.le_of_ble_eq_true rfl) ?_
  exact W.vret hx hb hr (fun t ht hW => ⟨⟨(), rfl, trivial, q_1, q_12, q_17, q_22, q_24, q_26, q_28, q_29, q_31, q_33, q_35, q_37, q_39, q_41, q_43, q_45, q_47, q_49, q_51, q_53, q_55, q_57, q_59, q_61, q_63, q_65, q_68, q_70, q_72, q_18, q_19, q_20, q_21, cA_69, by rw [ht]; exact hP, va_K.moved hW.alike hK, hD⟩, hS.F ht⟩) hS.2.2 dX19_init_263
end
section
theorem dX19_no_0 : decode cX19_no 0 = .ok (.aload_n 0, 1) := by decide +kernel
theorem dX19_no_1 : decode cX19_no 1 = .ok (.iload_n 1, 1) := by decide +kernel
theorem dX19_no_2 : decode cX19_no 2 = .ok (.putfield 560, 3) := by decide +kernel
theorem dX19_no_5 : decode cX19_no 5 = .ok (.iconst 0, 1) := by decide +kernel
theorem dX19_no_6 : decode cX19_no 6 = .ok (.ireturn, 1) := by decide +kernel
def o_X19_no : List Cond := [.fieldLink RX19 560 "SsaForgeModel" "thrown" "I"]
def v_X19_no : List Cond := .code yX19_no cX19_no 2 (some .int) :: (o_X19_no ++ (wsX190 ++ []))
theorem mow_X19_no : ∀ w ∈ o_X19_no, w ∈ v_X19_no := fun _ h => List.mem_cons_of_mem _ (List.mem_append_left _ h)
theorem mem_X19_no_0 : ∀ w ∈ wsX190, w ∈ v_X19_no := fun _ h => List.mem_cons_of_mem _ (List.mem_append_right _ (List.mem_append_left _ h))
set_option maxRecDepth 20000 in
theorem gw_X19_no : v_X19_no.all goodWord = true := by decide +kernel
set_option maxHeartbeats 4000000 in
set_option maxRecDepth 100000 in
theorem c_X19_no (l : Launch) (dC : Nat → ClassId) (dI : Nat → Nat → Nat) (h0 : Nat) (q_1 : Nat) (q_12 : Nat) (q_17 : Nat) (q_22 : Nat) (q_24 : Nat) (q_26 : Nat) (q_28 : Nat) (q_29 : Nat) (q_31 : Nat) (q_33 : Nat) (q_35 : Nat) (q_37 : Nat) (q_39 : Nat) (q_41 : Nat) (q_43 : Nat) (q_45 : Nat) (q_47 : Nat) (q_49 : Nat) (q_51 : Nat) (q_53 : Nat) (q_55 : Nat) (q_57 : Nat) (q_59 : Nat) (q_61 : Nat) (q_63 : Nat) (q_65 : Nat) (q_68 : Nat) (q_70 : Nat) (q_72 : Nat) (p0 : Int32) (sz : Nat) : Met l yX19_no v_X19_no ({ frames := 0, cells := 0, slots := 0, locals := 0 }) (va_Pc [.ref h0, .int p0] (fun U => U.heap.size = sz ∧ va_P (dC, dI) vwP [(h0, .inr (16, [.ref q_1, .ref q_12, .ref q_17, .ref q_22, .ref q_24, .ref q_26, .ref q_28, .ref q_29, .ref q_31, .ref q_33, .ref q_35, .int 0, .ref q_37, .ref q_39, .ref q_41, .ref q_43, .ref q_45, .ref q_47, .ref q_49, .ref q_51, .ref q_53, .ref q_55, .ref q_57, .int 0, .ref q_59, .ref q_61, .ref q_63, .int (-1), .int 0, .int 0, .int 0, .int 0, .ref q_65, .int 0, .ref q_68, .int 0, .int (-1), .int 0, .int 0, .ref q_70, .ref q_72]))] U.heap ∧ va_K (dC, dI) vwP [] U ∧ va_D (fun _ => True) [(h0, .inr (16, [.ref q_1, .ref q_12, .ref q_17, .ref q_22, .ref q_24, .ref q_26, .ref q_28, .ref q_29, .ref q_31, .ref q_33, .ref q_35, .int 0, .ref q_37, .ref q_39, .ref q_41, .ref q_43, .ref q_45, .ref q_47, .ref q_49, .ref q_51, .ref q_53, .ref q_55, .ref q_57, .int 0, .ref q_59, .ref q_61, .ref q_63, .int (-1), .int 0, .int 0, .int 0, .int 0, .ref q_65, .int 0, .ref q_68, .int 0, .int (-1), .int 0, .int 0, .ref q_70, .ref q_72]))])) (va_Qi (fun (r : Int32) (_ : Unit) => r = 0) (fun (_ : Unit) (t : State) => va_P (dC, dI) vwP [(h0, .inr (16, [.ref q_1, .ref q_12, .ref q_17, .ref q_22, .ref q_24, .ref q_26, .ref q_28, .ref q_29, .ref q_31, .ref q_33, .ref q_35, .int 0, .ref q_37, .ref q_39, .ref q_41, .ref q_43, .ref q_45, .ref q_47, .ref q_49, .ref q_51, .ref q_53, .ref q_55, .ref q_57, .int 0, .ref q_59, .ref q_61, .ref q_63, .int (-1), .int 0, .int 0, .int 0, .int 0, .ref q_65, .int p0, .ref q_68, .int 0, .int (-1), .int 0, .int 0, .ref q_70, .ref q_72]))] t.heap ∧ va_K (dC, dI) vwP [] t ∧ va_D (va_A [(h0, .inr (16, [.ref q_1, .ref q_12, .ref q_17, .ref q_22, .ref q_24, .ref q_26, .ref q_28, .ref q_29, .ref q_31, .ref q_33, .ref q_35, .int 0, .ref q_37, .ref q_39, .ref q_41, .ref q_43, .ref q_45, .ref q_47, .ref q_49, .ref q_51, .ref q_53, .ref q_55, .ref q_57, .int 0, .ref q_59, .ref q_61, .ref q_63, .int (-1), .int 0, .int 0, .int 0, .int 0, .ref q_65, .int 0, .ref q_68, .int 0, .int (-1), .int 0, .int 0, .ref q_70, .ref q_72]))] sz) [(h0, .inr (16, [.ref q_1, .ref q_12, .ref q_17, .ref q_22, .ref q_24, .ref q_26, .ref q_28, .ref q_29, .ref q_31, .ref q_33, .ref q_35, .int 0, .ref q_37, .ref q_39, .ref q_41, .ref q_43, .ref q_45, .ref q_47, .ref q_49, .ref q_51, .ref q_53, .ref q_55, .ref q_57, .int 0, .ref q_59, .ref q_61, .ref q_63, .int (-1), .int 0, .int 0, .int 0, .int 0, .ref q_65, .int p0, .ref q_68, .int 0, .int (-1), .int 0, .int 0, .ref q_70, .ref q_72]))]) (va_A [(h0, .inr (16, [.ref q_1, .ref q_12, .ref q_17, .ref q_22, .ref q_24, .ref q_26, .ref q_28, .ref q_29, .ref q_31, .ref q_33, .ref q_35, .int 0, .ref q_37, .ref q_39, .ref q_41, .ref q_43, .ref q_45, .ref q_47, .ref q_49, .ref q_51, .ref q_53, .ref q_55, .ref q_57, .int 0, .ref q_59, .ref q_61, .ref q_63, .int (-1), .int 0, .int 0, .int 0, .int 0, .ref q_65, .int 0, .ref q_68, .int 0, .int (-1), .int 0, .int 0, .ref q_70, .ref q_72]))] sz)) 0 0 (va_A [(h0, .inr (16, [.ref q_1, .ref q_12, .ref q_17, .ref q_22, .ref q_24, .ref q_26, .ref q_28, .ref q_29, .ref q_31, .ref q_33, .ref q_35, .int 0, .ref q_37, .ref q_39, .ref q_41, .ref q_43, .ref q_45, .ref q_47, .ref q_49, .ref q_51, .ref q_53, .ref q_55, .ref q_57, .int 0, .ref q_59, .ref q_61, .ref q_63, .int (-1), .int 0, .int 0, .int 0, .int 0, .ref q_65, .int 0, .ref q_68, .int 0, .int (-1), .int 0, .int 0, .ref q_70, .ref q_72]))] sz) := by
  refine Met.ofW (cc := cX19_no) (maxL := 2) (ret := (some .int)) (by decide) rfl ?_
  intro p e s m args below meth c s₁ B hml hv
  obtain ⟨rfl, hsz, hP, hK, hD0⟩ := hv
  have hx := B.exec
  have hb := B.bytes
  have hr := B.returns
  have hts := atoms_spec (ws := v_X19_no) B.pre
  have hown : s.vm.findClass RX19 = some m.cls := findClass_of_methodNamed B.named
  have hlocks := B.notSynchronized
  have ow : ∀ {k : Nat} {w : Cond}, o_X19_no[k]? = some w → w.before ([.ref h0, .int p0] : List Value).toArray s = true := fun h => hts _ (mow_X19_no _ (List.mem_of_getElem? h))
  subst hsz
  have hD := hD0.self (sz := s.heap.size)
  generalize hAe : va_A [(h0, .inr (16, [.ref q_1, .ref q_12, .ref q_17, .ref q_22, .ref q_24, .ref q_26, .ref q_28, .ref q_29, .ref q_31, .ref q_33, .ref q_35, .int 0, .ref q_37, .ref q_39, .ref q_41, .ref q_43, .ref q_45, .ref q_47, .ref q_49, .ref q_51, .ref q_53, .ref q_55, .ref q_57, .int 0, .ref q_59, .ref q_61, .ref q_63, .int (-1), .int 0, .int 0, .int 0, .int 0, .ref q_65, .int 0, .ref q_68, .int 0, .int (-1), .int 0, .int 0, .ref q_70, .ref q_72]))] s.heap.size = A at hD ⊢
  have hA : ∀ q : Nat, s.heap.size ≤ q → A q := fun q h => by rw [← hAe]; exact Or.inr h
  have hS : va_S A s.heap s.heap [] := va_S.rf
  have hP : va_P (dC, dI) vwP [(h0, .inr (16, [.ref q_1, .ref q_12, .ref q_17, .ref q_22, .ref q_24, .ref q_26, .ref q_28, .ref q_29, .ref q_31, .ref q_33, .ref q_35, .int 0, .ref q_37, .ref q_39, .ref q_41, .ref q_43, .ref q_45, .ref q_47, .ref q_49, .ref q_51, .ref q_53, .ref q_55, .ref q_57, .int 0, .ref q_59, .ref q_61, .ref q_63, .int (-1), .int 0, .int 0, .int 0, .int 0, .ref q_65, .int 0, .ref q_68, .int 0, .int (-1), .int 0, .int 0, .ref q_70, .ref q_72]))] s.heap := hP
  have hl := lv_entry ([.ref h0, .int p0]) (n := 2) (Nat.le_of_ble_eq_true rfl)
  rw [lg_entry_eq]
  generalize (lg_sl ([.ref h0, .int p0]) ++ List.replicate (2 - (lg_sl ([.ref h0, .int p0])).length) Slot.unset).toArray = ls at hl ⊢
  have hl : lv_has ls 2 [(0, .ref h0), (1, .int p0)] := hl
  obtain ⟨H, hH⟩ : ∃ H, H = s.heap := ⟨_, rfl⟩
  rw [← hH] at hP
  have hS : va_S A s.heap H [] := by rw [hH]; exact hS
  rw [← hH]
  refine lv_aload_n hx hb dX19_no_0 rfl (lv_at hl 0 rfl) ?_
  refine lv_iload_n hx hb dX19_no_1 rfl (lv_at hl 1 rfl) ?_
  refine va_put (D := (dC, dI)) (ci := 16) (v := .int p0) (ty := .int) (C := RX19) (T := TX19) (N := 41) hx hb hts mem_X19_no_0 tyX19 tyX19_ok nmX19 hown hK hP hD hS 0 rfl rfl 33 (by decide) (ow (k := 0) rfl) (fun _ h9 => h9) rfl (by decide +kernel) rfl rfl (Nat.le_of_ble_eq_true rfl) dX19_no_2 (fun H locs hP hD hS => ?_)
  have hP : va_P (dC, dI) vwP [(h0, .inr (16, [.ref q_1, .ref q_12, .ref q_17, .ref q_22, .ref q_24, .ref q_26, .ref q_28, .ref q_29, .ref q_31, .ref q_33, .ref q_35, .int 0, .ref q_37, .ref q_39, .ref q_41, .ref q_43, .ref q_45, .ref q_47, .ref q_49, .ref q_51, .ref q_53, .ref q_55, .ref q_57, .int 0, .ref q_59, .ref q_61, .ref q_63, .int (-1), .int 0, .int 0, .int 0, .int 0, .ref q_65, .int p0, .ref q_68, .int 0, .int (-1), .int 0, .int 0, .ref q_70, .ref q_72]))] H := hP
  have hD : va_D A [(h0, .inr (16, [.ref q_1, .ref q_12, .ref q_17, .ref q_22, .ref q_24, .ref q_26, .ref q_28, .ref q_29, .ref q_31, .ref q_33, .ref q_35, .int 0, .ref q_37, .ref q_39, .ref q_41, .ref q_43, .ref q_45, .ref q_47, .ref q_49, .ref q_51, .ref q_53, .ref q_55, .ref q_57, .int 0, .ref q_59, .ref q_61, .ref q_63, .int (-1), .int 0, .int 0, .int 0, .int 0, .ref q_65, .int p0, .ref q_68, .int 0, .int (-1), .int 0, .int 0, .ref q_70, .ref q_72]))] := hD
  refine lv_iconst (v := 0) hx hb dX19_no_5 (by decide) ?_
  refine W.widen (k := 0) (n := 0) (Nat.le_of_ble_eq_true rfl) (Nat.le_of_ble_eq_true rfl) ?_
  exact W.iret (v := 0) hx hb hr (fun t ht hW => ⟨⟨0, (), rfl, rfl, by rw [ht]; exact hP, va_K.moved hW.alike hK, hD⟩, hS.F ht⟩) hS.2.2 dX19_no_6
theorem dX19_word_0 : decode cX19_word 0 = .ok (.iconst 0, 1) := by decide +kernel
theorem dX19_word_1 : decode cX19_word 1 = .ok (.istore_n 3, 1) := by decide +kernel
theorem dX19_word_2 : decode cX19_word 2 = .ok (.iload_n 3, 1) := by decide +kernel
theorem dX19_word_3 : decode cX19_word 3 = .ok (.iconst 4, 1) := by decide +kernel
theorem dX19_word_4 : decode cX19_word 4 = .ok (.if_icmp .ge 27, 3) := by decide +kernel
theorem dX19_word_7 : decode cX19_word 7 = .ok (.aload_n 0, 1) := by decide +kernel
theorem dX19_word_8 : decode cX19_word 8 = .ok (.getfield 551, 3) := by decide +kernel
theorem dX19_word_11 : decode cX19_word 11 = .ok (.iload_n 2, 1) := by decide +kernel
theorem dX19_word_12 : decode cX19_word 12 = .ok (.iload_n 3, 1) := by decide +kernel
theorem dX19_word_13 : decode cX19_word 13 = .ok (.iadd, 1) := by decide +kernel
theorem dX19_word_14 : decode cX19_word 14 = .ok (.iload_n 1, 1) := by decide +kernel
theorem dX19_word_15 : decode cX19_word 15 = .ok (.bipush 24, 2) := by decide +kernel
theorem dX19_word_17 : decode cX19_word 17 = .ok (.bipush 8, 2) := by decide +kernel
theorem dX19_word_19 : decode cX19_word 19 = .ok (.iload_n 3, 1) := by decide +kernel
theorem dX19_word_20 : decode cX19_word 20 = .ok (.imul, 1) := by decide +kernel
theorem dX19_word_21 : decode cX19_word 21 = .ok (.isub, 1) := by decide +kernel
theorem dX19_word_22 : decode cX19_word 22 = .ok (.ishr, 1) := by decide +kernel
theorem dX19_word_23 : decode cX19_word 23 = .ok (.i2b, 1) := by decide +kernel
theorem dX19_word_24 : decode cX19_word 24 = .ok (.bastore, 1) := by decide +kernel
theorem dX19_word_25 : decode cX19_word 25 = .ok (.iinc 3 1, 3) := by decide +kernel
theorem dX19_word_28 : decode cX19_word 28 = .ok (.goto (-26), 3) := by decide +kernel
theorem dX19_word_31 : decode cX19_word 31 = .ok (.return_, 1) := by decide +kernel
def o_X19_word0 : List Cond := [.fieldLink RX19 551 "SsaForgeModel" "tape" "[B"]
def v_X19_word0 : List Cond := .code yX19_word cX19_word 4 none :: (o_X19_word0 ++ (wsX190 ++ []))
theorem mow_X19_word0 : ∀ w ∈ o_X19_word0, w ∈ v_X19_word0 := fun _ h => List.mem_cons_of_mem _ (List.mem_append_left _ h)
theorem mem_X19_word0_0 : ∀ w ∈ wsX190, w ∈ v_X19_word0 := fun _ h => List.mem_cons_of_mem _ (List.mem_append_right _ (List.mem_append_left _ h))
set_option maxRecDepth 20000 in
theorem gw_X19_word0 : v_X19_word0.all goodWord = true := by decide +kernel
set_option maxHeartbeats 4000000 in
set_option maxRecDepth 100000 in
theorem c_X19_word0 (l : Launch) (dC : Nat → ClassId) (dI : Nat → Nat → Nat) (h0 : Nat) (q_1 : Nat) (q_12 : Nat) (q_17 : Nat) (q_22 : Nat) (q_24 : Nat) (q_26 : Nat) (q_28 : Nat) (q_29 : Nat) (q_31 : Nat) (q_33 : Nat) (q_35 : Nat) (q_37 : Nat) (q_39 : Nat) (q_41 : Nat) (q_43 : Nat) (q_45 : Nat) (q_47 : Nat) (q_49 : Nat) (q_51 : Nat) (q_53 : Nat) (q_55 : Nat) (q_57 : Nat) (q_59 : Nat) (q_61 : Nat) (q_63 : Nat) (q_65 : Nat) (q_68 : Nat) (q_70 : Nat) (q_72 : Nat) (cA_69 : ClassId) (f_0 : Nat → Int32) (p0 : Int32) (sz : Nat) : Met l yX19_word v_X19_word0 ({ frames := 0, cells := 0, slots := 0, locals := 0 }) (va_Pc [.ref h0, .int p0, .int 0] (fun U => U.heap.size = sz ∧ va_P (dC, dI) vwP [(h0, .inr (16, [.ref q_1, .ref q_12, .ref q_17, .ref q_22, .ref q_24, .ref q_26, .ref q_28, .ref q_29, .ref q_31, .ref q_33, .ref q_35, .int 0, .ref q_37, .ref q_39, .ref q_41, .ref q_43, .ref q_45, .ref q_47, .ref q_49, .ref q_51, .ref q_53, .ref q_55, .ref q_57, .int 0, .ref q_59, .ref q_61, .ref q_63, .int (-1), .int 0, .int 0, .int 0, .int 0, .ref q_65, .int 0, .ref q_68, .int 0, .int (-1), .int 0, .int 0, .ref q_70, .ref q_72])), (q_68, .inl (cA_69, 8192, .inl f_0))] U.heap ∧ va_K (dC, dI) vwP [(cA_69, .byte)] U ∧ va_D (fun _ => True) [(h0, .inr (16, [.ref q_1, .ref q_12, .ref q_17, .ref q_22, .ref q_24, .ref q_26, .ref q_28, .ref q_29, .ref q_31, .ref q_33, .ref q_35, .int 0, .ref q_37, .ref q_39, .ref q_41, .ref q_43, .ref q_45, .ref q_47, .ref q_49, .ref q_51, .ref q_53, .ref q_55, .ref q_57, .int 0, .ref q_59, .ref q_61, .ref q_63, .int (-1), .int 0, .int 0, .int 0, .int 0, .ref q_65, .int 0, .ref q_68, .int 0, .int (-1), .int 0, .int 0, .ref q_70, .ref q_72])), (q_68, .inl (cA_69, 8192, .inl f_0))])) (va_Qv (fun _ : Unit => True) (fun (_ : Unit) (t : State) => ∃ (g0_9 : Nat → Int32), va_P (dC, dI) vwP [(h0, .inr (16, [.ref q_1, .ref q_12, .ref q_17, .ref q_22, .ref q_24, .ref q_26, .ref q_28, .ref q_29, .ref q_31, .ref q_33, .ref q_35, .int 0, .ref q_37, .ref q_39, .ref q_41, .ref q_43, .ref q_45, .ref q_47, .ref q_49, .ref q_51, .ref q_53, .ref q_55, .ref q_57, .int 0, .ref q_59, .ref q_61, .ref q_63, .int (-1), .int 0, .int 0, .int 0, .int 0, .ref q_65, .int 0, .ref q_68, .int 0, .int (-1), .int 0, .int 0, .ref q_70, .ref q_72])), (q_68, .inl (cA_69, 8192, .inl g0_9))] t.heap ∧ va_K (dC, dI) vwP [(cA_69, .byte)] t ∧ va_D (va_A [(h0, .inr (16, [.ref q_1, .ref q_12, .ref q_17, .ref q_22, .ref q_24, .ref q_26, .ref q_28, .ref q_29, .ref q_31, .ref q_33, .ref q_35, .int 0, .ref q_37, .ref q_39, .ref q_41, .ref q_43, .ref q_45, .ref q_47, .ref q_49, .ref q_51, .ref q_53, .ref q_55, .ref q_57, .int 0, .ref q_59, .ref q_61, .ref q_63, .int (-1), .int 0, .int 0, .int 0, .int 0, .ref q_65, .int 0, .ref q_68, .int 0, .int (-1), .int 0, .int 0, .ref q_70, .ref q_72])), (q_68, .inl (cA_69, 8192, .inl f_0))] sz) [(h0, .inr (16, [.ref q_1, .ref q_12, .ref q_17, .ref q_22, .ref q_24, .ref q_26, .ref q_28, .ref q_29, .ref q_31, .ref q_33, .ref q_35, .int 0, .ref q_37, .ref q_39, .ref q_41, .ref q_43, .ref q_45, .ref q_47, .ref q_49, .ref q_51, .ref q_53, .ref q_55, .ref q_57, .int 0, .ref q_59, .ref q_61, .ref q_63, .int (-1), .int 0, .int 0, .int 0, .int 0, .ref q_65, .int 0, .ref q_68, .int 0, .int (-1), .int 0, .int 0, .ref q_70, .ref q_72])), (q_68, .inl (cA_69, 8192, .inl g0_9))]) (va_A [(h0, .inr (16, [.ref q_1, .ref q_12, .ref q_17, .ref q_22, .ref q_24, .ref q_26, .ref q_28, .ref q_29, .ref q_31, .ref q_33, .ref q_35, .int 0, .ref q_37, .ref q_39, .ref q_41, .ref q_43, .ref q_45, .ref q_47, .ref q_49, .ref q_51, .ref q_53, .ref q_55, .ref q_57, .int 0, .ref q_59, .ref q_61, .ref q_63, .int (-1), .int 0, .int 0, .int 0, .int 0, .ref q_65, .int 0, .ref q_68, .int 0, .int (-1), .int 0, .int 0, .ref q_70, .ref q_72])), (q_68, .inl (cA_69, 8192, .inl f_0))] sz)) 0 0 (va_A [(h0, .inr (16, [.ref q_1, .ref q_12, .ref q_17, .ref q_22, .ref q_24, .ref q_26, .ref q_28, .ref q_29, .ref q_31, .ref q_33, .ref q_35, .int 0, .ref q_37, .ref q_39, .ref q_41, .ref q_43, .ref q_45, .ref q_47, .ref q_49, .ref q_51, .ref q_53, .ref q_55, .ref q_57, .int 0, .ref q_59, .ref q_61, .ref q_63, .int (-1), .int 0, .int 0, .int 0, .int 0, .ref q_65, .int 0, .ref q_68, .int 0, .int (-1), .int 0, .int 0, .ref q_70, .ref q_72])), (q_68, .inl (cA_69, 8192, .inl f_0))] sz) := by
  refine Met.ofW (cc := cX19_word) (maxL := 4) (ret := none) (by decide) rfl ?_
  intro p e s m args below meth c s₁ B hml hv
  obtain ⟨rfl, hsz, hP, hK, hD0⟩ := hv
  have hx := B.exec
  have hb := B.bytes
  have hr := B.returns
  have hts := atoms_spec (ws := v_X19_word0) B.pre
  have hown : s.vm.findClass RX19 = some m.cls := findClass_of_methodNamed B.named
  have hlocks := B.notSynchronized
  have ow : ∀ {k : Nat} {w : Cond}, o_X19_word0[k]? = some w → w.before ([.ref h0, .int p0, .int 0] : List Value).toArray s = true := fun h => hts _ (mow_X19_word0 _ (List.mem_of_getElem? h))
  subst hsz
  have hD := hD0.self (sz := s.heap.size)
  generalize hAe : va_A [(h0, .inr (16, [.ref q_1, .ref q_12, .ref q_17, .ref q_22, .ref q_24, .ref q_26, .ref q_28, .ref q_29, .ref q_31, .ref q_33, .ref q_35, .int 0, .ref q_37, .ref q_39, .ref q_41, .ref q_43, .ref q_45, .ref q_47, .ref q_49, .ref q_51, .ref q_53, .ref q_55, .ref q_57, .int 0, .ref q_59, .ref q_61, .ref q_63, .int (-1), .int 0, .int 0, .int 0, .int 0, .ref q_65, .int 0, .ref q_68, .int 0, .int (-1), .int 0, .int 0, .ref q_70, .ref q_72])), (q_68, .inl (cA_69, 8192, .inl f_0))] s.heap.size = A at hD ⊢
  have hA : ∀ q : Nat, s.heap.size ≤ q → A q := fun q h => by rw [← hAe]; exact Or.inr h
  have hS : va_S A s.heap s.heap [] := va_S.rf
  have hP : va_P (dC, dI) vwP [(h0, .inr (16, [.ref q_1, .ref q_12, .ref q_17, .ref q_22, .ref q_24, .ref q_26, .ref q_28, .ref q_29, .ref q_31, .ref q_33, .ref q_35, .int 0, .ref q_37, .ref q_39, .ref q_41, .ref q_43, .ref q_45, .ref q_47, .ref q_49, .ref q_51, .ref q_53, .ref q_55, .ref q_57, .int 0, .ref q_59, .ref q_61, .ref q_63, .int (-1), .int 0, .int 0, .int 0, .int 0, .ref q_65, .int 0, .ref q_68, .int 0, .int (-1), .int 0, .int 0, .ref q_70, .ref q_72])), (q_68, .inl (cA_69, 8192, .inl f_0))] s.heap := hP
  have hl := lv_entry ([.ref h0, .int p0, .int 0]) (n := 4) (Nat.le_of_ble_eq_true rfl)
  rw [lg_entry_eq]
  generalize (lg_sl ([.ref h0, .int p0, .int 0]) ++ List.replicate (4 - (lg_sl ([.ref h0, .int p0, .int 0])).length) Slot.unset).toArray = ls at hl ⊢
  have hl : lv_has ls 4 [(0, .ref h0), (1, .int p0), (2, .int 0)] := hl
  obtain ⟨H, hH⟩ : ∃ H, H = s.heap := ⟨_, rfl⟩
  rw [← hH] at hP
  have hS : va_S A s.heap H [] := by rw [hH]; exact hS
  rw [← hH]
  refine lv_iconst (v := 0) hx hb dX19_word_0 (by decide) ?_
  refine lv_istore_n (lv' := [(3, .int 0), (0, .ref h0), (1, .int p0), (2, .int 0)]) hx hb dX19_word_1 rfl hl (by decide) rfl (fun ls hl => ?_)
  refine lv_iload_n hx hb dX19_word_2 rfl (lv_at hl 0 rfl) ?_
  refine lv_iconst (v := 4) hx hb dX19_word_3 (by decide) ?_
  refine lv_icmp_ge (tgt := 31) hx hb dX19_word_4 (by decide) (fun h9 => absurd h9 (by decide)) (fun _ => ?_)
  refine lv_aload_n hx hb dX19_word_7 rfl (lv_at hl 1 rfl) ?_
  refine va_get (D := (dC, dI)) (ci := 16) (v := .ref q_68) (C := RX19) (T := TX19) (N := 41) hx hb hts mem_X19_word0_0 hown hK hP 0 rfl rfl 34 (by decide) (ow (k := 0) rfl) (fun _ h9 => h9) rfl dX19_word_8 ?_
  refine lv_iload_n hx hb dX19_word_11 rfl (lv_at hl 3 rfl) ?_
  refine lv_iload_n hx hb dX19_word_12 rfl (lv_at hl 0 rfl) ?_
  refine lv_iadd hx hb dX19_word_13 ?_
  refine lv_topi (fun z ez => ?_)
  obtain rfl : z = 0 := by rw [ez]; decide
  refine lv_iload_n hx hb dX19_word_14 rfl (lv_at hl 2 rfl) ?_
  refine lv_bipush (v := 24) hx hb dX19_word_15 (by decide) ?_
  refine lv_bipush (v := 8) hx hb dX19_word_17 (by decide) ?_
  refine lv_iload_n hx hb dX19_word_19 rfl (lv_at hl 0 rfl) ?_
  refine lv_imul hx hb dX19_word_20 ?_
  refine lv_topi (fun z ez => ?_)
  obtain rfl : z = 0 := by rw [ez]; decide
  refine lv_isub hx hb dX19_word_21 ?_
  refine lv_topi (fun z ez => ?_)
  obtain rfl : z = 24 := by rw [ez]; decide
  refine lv_ishr hx hb dX19_word_22 ?_
  refine lv_i2b hx hb dX19_word_23 rfl ?_
  refine va_bast hx hb hK hP hD hS 1 0 rfl rfl (show vp_in 0 8192 by rw [vp_in_iff]; decide) dX19_word_24 (fun H locs hP hD hS => ?_)
  have hP : va_P (dC, dI) vwP [(h0, .inr (16, [.ref q_1, .ref q_12, .ref q_17, .ref q_22, .ref q_24, .ref q_26, .ref q_28, .ref q_29, .ref q_31, .ref q_33, .ref q_35, .int 0, .ref q_37, .ref q_39, .ref q_41, .ref q_43, .ref q_45, .ref q_47, .ref q_49, .ref q_51, .ref q_53, .ref q_55, .ref q_57, .int 0, .ref q_59, .ref q_61, .ref q_63, .int (-1), .int 0, .int 0, .int 0, .int 0, .ref q_65, .int 0, .ref q_68, .int 0, .int (-1), .int 0, .int 0, .ref q_70, .ref q_72])), (q_68, .inl (cA_69, 8192, .inl (upd f_0 (0 : Int32).toNatClampNeg (vp_nar .byte ((p0 >>> (24 &&& 31)).toInt8.toInt32)))))] H := hP
  have hD : va_D A [(h0, .inr (16, [.ref q_1, .ref q_12, .ref q_17, .ref q_22, .ref q_24, .ref q_26, .ref q_28, .ref q_29, .ref q_31, .ref q_33, .ref q_35, .int 0, .ref q_37, .ref q_39, .ref q_41, .ref q_43, .ref q_45, .ref q_47, .ref q_49, .ref q_51, .ref q_53, .ref q_55, .ref q_57, .int 0, .ref q_59, .ref q_61, .ref q_63, .int (-1), .int 0, .int 0, .int 0, .int 0, .ref q_65, .int 0, .ref q_68, .int 0, .int (-1), .int 0, .int 0, .ref q_70, .ref q_72])), (q_68, .inl (cA_69, 8192, .inl (upd f_0 (0 : Int32).toNatClampNeg (vp_nar .byte ((p0 >>> (24 &&& 31)).toInt8.toInt32)))))] := hD
  generalize (upd f_0 (0 : Int32).toNatClampNeg (vp_nar .byte ((p0 >>> (24 &&& 31)).toInt8.toInt32))) = f_2001 at hP hD
  refine lv_iinc (v := 1) (lv' := [(3, .int 1), (0, .ref h0), (1, .int p0), (2, .int 0)]) hx hb dX19_word_25 hl (k := 0) rfl (by decide) (by decide) rfl (fun ls hl => ?_)
  refine lv_goto (tgt := 2) hx hb dX19_word_28 (by decide) ?_
  refine lv_iload_n hx hb dX19_word_2 rfl (lv_at hl 0 rfl) ?_
  refine lv_iconst (v := 4) hx hb dX19_word_3 (by decide) ?_
  refine lv_icmp_ge (tgt := 31) hx hb dX19_word_4 (by decide) (fun h9 => absurd h9 (by decide)) (fun _ => ?_)
  refine lv_aload_n hx hb dX19_word_7 rfl (lv_at hl 1 rfl) ?_
  refine va_get (D := (dC, dI)) (ci := 16) (v := .ref q_68) (C := RX19) (T := TX19) (N := 41) hx hb hts mem_X19_word0_0 hown hK hP 0 rfl rfl 34 (by decide) (ow (k := 0) rfl) (fun _ h9 => h9) rfl dX19_word_8 ?_
  refine lv_iload_n hx hb dX19_word_11 rfl (lv_at hl 3 rfl) ?_
  refine lv_iload_n hx hb dX19_word_12 rfl (lv_at hl 0 rfl) ?_
  refine lv_iadd hx hb dX19_word_13 ?_
  refine lv_topi (fun z ez => ?_)
  obtain rfl : z = 1 := by rw [ez]; decide
  refine lv_iload_n hx hb dX19_word_14 rfl (lv_at hl 2 rfl) ?_
  refine lv_bipush (v := 24) hx hb dX19_word_15 (by decide) ?_
  refine lv_bipush (v := 8) hx hb dX19_word_17 (by decide) ?_
  refine lv_iload_n hx hb dX19_word_19 rfl (lv_at hl 0 rfl) ?_
  refine lv_imul hx hb dX19_word_20 ?_
  refine lv_topi (fun z ez => ?_)
  obtain rfl : z = 8 := by rw [ez]; decide
  refine lv_isub hx hb dX19_word_21 ?_
  refine lv_topi (fun z ez => ?_)
  obtain rfl : z = 16 := by rw [ez]; decide
  refine lv_ishr hx hb dX19_word_22 ?_
  refine lv_i2b hx hb dX19_word_23 rfl ?_
  refine va_bast hx hb hK hP hD hS 1 0 rfl rfl (show vp_in 1 8192 by rw [vp_in_iff]; decide) dX19_word_24 (fun H locs hP hD hS => ?_)
  have hP : va_P (dC, dI) vwP [(h0, .inr (16, [.ref q_1, .ref q_12, .ref q_17, .ref q_22, .ref q_24, .ref q_26, .ref q_28, .ref q_29, .ref q_31, .ref q_33, .ref q_35, .int 0, .ref q_37, .ref q_39, .ref q_41, .ref q_43, .ref q_45, .ref q_47, .ref q_49, .ref q_51, .ref q_53, .ref q_55, .ref q_57, .int 0, .ref q_59, .ref q_61, .ref q_63, .int (-1), .int 0, .int 0, .int 0, .int 0, .ref q_65, .int 0, .ref q_68, .int 0, .int (-1), .int 0, .int 0, .ref q_70, .ref q_72])), (q_68, .inl (cA_69, 8192, .inl (upd f_2001 (1 : Int32).toNatClampNeg (vp_nar .byte ((p0 >>> (16 &&& 31)).toInt8.toInt32)))))] H := hP
  have hD : va_D A [(h0, .inr (16, [.ref q_1, .ref q_12, .ref q_17, .ref q_22, .ref q_24, .ref q_26, .ref q_28, .ref q_29, .ref q_31, .ref q_33, .ref q_35, .int 0, .ref q_37, .ref q_39, .ref q_41, .ref q_43, .ref q_45, .ref q_47, .ref q_49, .ref q_51, .ref q_53, .ref q_55, .ref q_57, .int 0, .ref q_59, .ref q_61, .ref q_63, .int (-1), .int 0, .int 0, .int 0, .int 0, .ref q_65, .int 0, .ref q_68, .int 0, .int (-1), .int 0, .int 0, .ref q_70, .ref q_72])), (q_68, .inl (cA_69, 8192, .inl (upd f_2001 (1 : Int32).toNatClampNeg (vp_nar .byte ((p0 >>> (16 &&& 31)).toInt8.toInt32)))))] := hD
  generalize (upd f_2001 (1 : Int32).toNatClampNeg (vp_nar .byte ((p0 >>> (16 &&& 31)).toInt8.toInt32))) = f_2002 at hP hD
  refine lv_iinc (v := 2) (lv' := [(3, .int 2), (0, .ref h0), (1, .int p0), (2, .int 0)]) hx hb dX19_word_25 hl (k := 0) rfl (by decide) (by decide) rfl (fun ls hl => ?_)
  refine lv_goto (tgt := 2) hx hb dX19_word_28 (by decide) ?_
  refine lv_iload_n hx hb dX19_word_2 rfl (lv_at hl 0 rfl) ?_
  refine lv_iconst (v := 4) hx hb dX19_word_3 (by decide) ?_
  refine lv_icmp_ge (tgt := 31) hx hb dX19_word_4 (by decide) (fun h9 => absurd h9 (by decide)) (fun _ => ?_)
  refine lv_aload_n hx hb dX19_word_7 rfl (lv_at hl 1 rfl) ?_
  refine va_get (D := (dC, dI)) (ci := 16) (v := .ref q_68) (C := RX19) (T := TX19) (N := 41) hx hb hts mem_X19_word0_0 hown hK hP 0 rfl rfl 34 (by decide) (ow (k := 0) rfl) (fun _ h9 => h9) rfl dX19_word_8 ?_
  refine lv_iload_n hx hb dX19_word_11 rfl (lv_at hl 3 rfl) ?_
  refine lv_iload_n hx hb dX19_word_12 rfl (lv_at hl 0 rfl) ?_
  refine lv_iadd hx hb dX19_word_13 ?_
  refine lv_topi (fun z ez => ?_)
  obtain rfl : z = 2 := by rw [ez]; decide
  refine lv_iload_n hx hb dX19_word_14 rfl (lv_at hl 2 rfl) ?_
  refine lv_bipush (v := 24) hx hb dX19_word_15 (by decide) ?_
  refine lv_bipush (v := 8) hx hb dX19_word_17 (by decide) ?_
  refine lv_iload_n hx hb dX19_word_19 rfl (lv_at hl 0 rfl) ?_
  refine lv_imul hx hb dX19_word_20 ?_
  refine lv_topi (fun z ez => ?_)
  obtain rfl : z = 16 := by rw [ez]; decide
  refine lv_isub hx hb dX19_word_21 ?_
  refine lv_topi (fun z ez => ?_)
  obtain rfl : z = 8 := by rw [ez]; decide
  refine lv_ishr hx hb dX19_word_22 ?_
  refine lv_i2b hx hb dX19_word_23 rfl ?_
  refine va_bast hx hb hK hP hD hS 1 0 rfl rfl (show vp_in 2 8192 by rw [vp_in_iff]; decide) dX19_word_24 (fun H locs hP hD hS => ?_)
  have hP : va_P (dC, dI) vwP [(h0, .inr (16, [.ref q_1, .ref q_12, .ref q_17, .ref q_22, .ref q_24, .ref q_26, .ref q_28, .ref q_29, .ref q_31, .ref q_33, .ref q_35, .int 0, .ref q_37, .ref q_39, .ref q_41, .ref q_43, .ref q_45, .ref q_47, .ref q_49, .ref q_51, .ref q_53, .ref q_55, .ref q_57, .int 0, .ref q_59, .ref q_61, .ref q_63, .int (-1), .int 0, .int 0, .int 0, .int 0, .ref q_65, .int 0, .ref q_68, .int 0, .int (-1), .int 0, .int 0, .ref q_70, .ref q_72])), (q_68, .inl (cA_69, 8192, .inl (upd f_2002 (2 : Int32).toNatClampNeg (vp_nar .byte ((p0 >>> (8 &&& 31)).toInt8.toInt32)))))] H := hP
  have hD : va_D A [(h0, .inr (16, [.ref q_1, .ref q_12, .ref q_17, .ref q_22, .ref q_24, .ref q_26, .ref q_28, .ref q_29, .ref q_31, .ref q_33, .ref q_35, .int 0, .ref q_37, .ref q_39, .ref q_41, .ref q_43, .ref q_45, .ref q_47, .ref q_49, .ref q_51, .ref q_53, .ref q_55, .ref q_57, .int 0, .ref q_59, .ref q_61, .ref q_63, .int (-1), .int 0, .int 0, .int 0, .int 0, .ref q_65, .int 0, .ref q_68, .int 0, .int (-1), .int 0, .int 0, .ref q_70, .ref q_72])), (q_68, .inl (cA_69, 8192, .inl (upd f_2002 (2 : Int32).toNatClampNeg (vp_nar .byte ((p0 >>> (8 &&& 31)).toInt8.toInt32)))))] := hD
  generalize (upd f_2002 (2 : Int32).toNatClampNeg (vp_nar .byte ((p0 >>> (8 &&& 31)).toInt8.toInt32))) = f_2003 at hP hD
  refine lv_iinc (v := 3) (lv' := [(3, .int 3), (0, .ref h0), (1, .int p0), (2, .int 0)]) hx hb dX19_word_25 hl (k := 0) rfl (by decide) (by decide) rfl (fun ls hl => ?_)
  refine lv_goto (tgt := 2) hx hb dX19_word_28 (by decide) ?_
  refine lv_iload_n hx hb dX19_word_2 rfl (lv_at hl 0 rfl) ?_
  refine lv_iconst (v := 4) hx hb dX19_word_3 (by decide) ?_
  refine lv_icmp_ge (tgt := 31) hx hb dX19_word_4 (by decide) (fun h9 => absurd h9 (by decide)) (fun _ => ?_)
  refine lv_aload_n hx hb dX19_word_7 rfl (lv_at hl 1 rfl) ?_
  refine va_get (D := (dC, dI)) (ci := 16) (v := .ref q_68) (C := RX19) (T := TX19) (N := 41) hx hb hts mem_X19_word0_0 hown hK hP 0 rfl rfl 34 (by decide) (ow (k := 0) rfl) (fun _ h9 => h9) rfl dX19_word_8 ?_
  refine lv_iload_n hx hb dX19_word_11 rfl (lv_at hl 3 rfl) ?_
  refine lv_iload_n hx hb dX19_word_12 rfl (lv_at hl 0 rfl) ?_
  refine lv_iadd hx hb dX19_word_13 ?_
  refine lv_topi (fun z ez => ?_)
  obtain rfl : z = 3 := by rw [ez]; decide
  refine lv_iload_n hx hb dX19_word_14 rfl (lv_at hl 2 rfl) ?_
  refine lv_bipush (v := 24) hx hb dX19_word_15 (by decide) ?_
  refine lv_bipush (v := 8) hx hb dX19_word_17 (by decide) ?_
  refine lv_iload_n hx hb dX19_word_19 rfl (lv_at hl 0 rfl) ?_
  refine lv_imul hx hb dX19_word_20 ?_
  refine lv_topi (fun z ez => ?_)
  obtain rfl : z = 24 := by rw [ez]; decide
  refine lv_isub hx hb dX19_word_21 ?_
  refine lv_topi (fun z ez => ?_)
  obtain rfl : z = 0 := by rw [ez]; decide
  refine lv_ishr hx hb dX19_word_22 ?_
  refine lv_i2b hx hb dX19_word_23 rfl ?_
  refine va_bast hx hb hK hP hD hS 1 0 rfl rfl (show vp_in 3 8192 by rw [vp_in_iff]; decide) dX19_word_24 (fun H locs hP hD hS => ?_)
  have hP : va_P (dC, dI) vwP [(h0, .inr (16, [.ref q_1, .ref q_12, .ref q_17, .ref q_22, .ref q_24, .ref q_26, .ref q_28, .ref q_29, .ref q_31, .ref q_33, .ref q_35, .int 0, .ref q_37, .ref q_39, .ref q_41, .ref q_43, .ref q_45, .ref q_47, .ref q_49, .ref q_51, .ref q_53, .ref q_55, .ref q_57, .int 0, .ref q_59, .ref q_61, .ref q_63, .int (-1), .int 0, .int 0, .int 0, .int 0, .ref q_65, .int 0, .ref q_68, .int 0, .int (-1), .int 0, .int 0, .ref q_70, .ref q_72])), (q_68, .inl (cA_69, 8192, .inl (upd f_2003 (3 : Int32).toNatClampNeg (vp_nar .byte ((p0 >>> (0 &&& 31)).toInt8.toInt32)))))] H := hP
  have hD : va_D A [(h0, .inr (16, [.ref q_1, .ref q_12, .ref q_17, .ref q_22, .ref q_24, .ref q_26, .ref q_28, .ref q_29, .ref q_31, .ref q_33, .ref q_35, .int 0, .ref q_37, .ref q_39, .ref q_41, .ref q_43, .ref q_45, .ref q_47, .ref q_49, .ref q_51, .ref q_53, .ref q_55, .ref q_57, .int 0, .ref q_59, .ref q_61, .ref q_63, .int (-1), .int 0, .int 0, .int 0, .int 0, .ref q_65, .int 0, .ref q_68, .int 0, .int (-1), .int 0, .int 0, .ref q_70, .ref q_72])), (q_68, .inl (cA_69, 8192, .inl (upd f_2003 (3 : Int32).toNatClampNeg (vp_nar .byte ((p0 >>> (0 &&& 31)).toInt8.toInt32)))))] := hD
  generalize (upd f_2003 (3 : Int32).toNatClampNeg (vp_nar .byte ((p0 >>> (0 &&& 31)).toInt8.toInt32))) = f_2004 at hP hD
  refine lv_iinc (v := 4) (lv' := [(3, .int 4), (0, .ref h0), (1, .int p0), (2, .int 0)]) hx hb dX19_word_25 hl (k := 0) rfl (by decide) (by decide) rfl (fun ls hl => ?_)
  refine lv_goto (tgt := 2) hx hb dX19_word_28 (by decide) ?_
  refine lv_iload_n hx hb dX19_word_2 rfl (lv_at hl 0 rfl) ?_
  refine lv_iconst (v := 4) hx hb dX19_word_3 (by decide) ?_
  refine lv_icmp_ge (tgt := 31) hx hb dX19_word_4 (by decide) (fun _ => ?_) (fun h9 => absurd h9 (by decide))
  refine W.widen (k := 0) (n := 0) (Nat.le_of_ble_eq_true rfl) (Nat.le_of_ble_eq_true rfl) ?_
  exact W.vret hx hb hr (fun t ht hW => ⟨⟨(), rfl, trivial, f_2004, by rw [ht]; exact hP, va_K.moved hW.alike hK, hD⟩, hS.F ht⟩) hS.2.2 dX19_word_31
def o_X19_word4 : List Cond := [.fieldLink RX19 551 "SsaForgeModel" "tape" "[B"]
def v_X19_word4 : List Cond := .code yX19_word cX19_word 4 none :: (o_X19_word4 ++ (wsX190 ++ []))
theorem mow_X19_word4 : ∀ w ∈ o_X19_word4, w ∈ v_X19_word4 := fun _ h => List.mem_cons_of_mem _ (List.mem_append_left _ h)
theorem mem_X19_word4_0 : ∀ w ∈ wsX190, w ∈ v_X19_word4 := fun _ h => List.mem_cons_of_mem _ (List.mem_append_right _ (List.mem_append_left _ h))
set_option maxRecDepth 20000 in
theorem gw_X19_word4 : v_X19_word4.all goodWord = true := by decide +kernel
set_option maxHeartbeats 4000000 in
set_option maxRecDepth 100000 in
theorem c_X19_word4 (l : Launch) (dC : Nat → ClassId) (dI : Nat → Nat → Nat) (h0 : Nat) (q_1 : Nat) (q_12 : Nat) (q_17 : Nat) (q_22 : Nat) (q_24 : Nat) (q_26 : Nat) (q_28 : Nat) (q_29 : Nat) (q_31 : Nat) (q_33 : Nat) (q_35 : Nat) (q_37 : Nat) (q_39 : Nat) (q_41 : Nat) (q_43 : Nat) (q_45 : Nat) (q_47 : Nat) (q_49 : Nat) (q_51 : Nat) (q_53 : Nat) (q_55 : Nat) (q_57 : Nat) (q_59 : Nat) (q_61 : Nat) (q_63 : Nat) (q_65 : Nat) (q_68 : Nat) (q_70 : Nat) (q_72 : Nat) (cA_69 : ClassId) (f_0 : Nat → Int32) (p0 : Int32) (sz : Nat) : Met l yX19_word v_X19_word4 ({ frames := 0, cells := 0, slots := 0, locals := 0 }) (va_Pc [.ref h0, .int p0, .int 4] (fun U => U.heap.size = sz ∧ va_P (dC, dI) vwP [(h0, .inr (16, [.ref q_1, .ref q_12, .ref q_17, .ref q_22, .ref q_24, .ref q_26, .ref q_28, .ref q_29, .ref q_31, .ref q_33, .ref q_35, .int 0, .ref q_37, .ref q_39, .ref q_41, .ref q_43, .ref q_45, .ref q_47, .ref q_49, .ref q_51, .ref q_53, .ref q_55, .ref q_57, .int 0, .ref q_59, .ref q_61, .ref q_63, .int (-1), .int 0, .int 0, .int 0, .int 0, .ref q_65, .int 0, .ref q_68, .int 0, .int (-1), .int 0, .int 0, .ref q_70, .ref q_72])), (q_68, .inl (cA_69, 8192, .inl f_0))] U.heap ∧ va_K (dC, dI) vwP [(cA_69, .byte)] U ∧ va_D (fun _ => True) [(h0, .inr (16, [.ref q_1, .ref q_12, .ref q_17, .ref q_22, .ref q_24, .ref q_26, .ref q_28, .ref q_29, .ref q_31, .ref q_33, .ref q_35, .int 0, .ref q_37, .ref q_39, .ref q_41, .ref q_43, .ref q_45, .ref q_47, .ref q_49, .ref q_51, .ref q_53, .ref q_55, .ref q_57, .int 0, .ref q_59, .ref q_61, .ref q_63, .int (-1), .int 0, .int 0, .int 0, .int 0, .ref q_65, .int 0, .ref q_68, .int 0, .int (-1), .int 0, .int 0, .ref q_70, .ref q_72])), (q_68, .inl (cA_69, 8192, .inl f_0))])) (va_Qv (fun _ : Unit => True) (fun (_ : Unit) (t : State) => ∃ (g0_9 : Nat → Int32), va_P (dC, dI) vwP [(h0, .inr (16, [.ref q_1, .ref q_12, .ref q_17, .ref q_22, .ref q_24, .ref q_26, .ref q_28, .ref q_29, .ref q_31, .ref q_33, .ref q_35, .int 0, .ref q_37, .ref q_39, .ref q_41, .ref q_43, .ref q_45, .ref q_47, .ref q_49, .ref q_51, .ref q_53, .ref q_55, .ref q_57, .int 0, .ref q_59, .ref q_61, .ref q_63, .int (-1), .int 0, .int 0, .int 0, .int 0, .ref q_65, .int 0, .ref q_68, .int 0, .int (-1), .int 0, .int 0, .ref q_70, .ref q_72])), (q_68, .inl (cA_69, 8192, .inl g0_9))] t.heap ∧ va_K (dC, dI) vwP [(cA_69, .byte)] t ∧ va_D (va_A [(h0, .inr (16, [.ref q_1, .ref q_12, .ref q_17, .ref q_22, .ref q_24, .ref q_26, .ref q_28, .ref q_29, .ref q_31, .ref q_33, .ref q_35, .int 0, .ref q_37, .ref q_39, .ref q_41, .ref q_43, .ref q_45, .ref q_47, .ref q_49, .ref q_51, .ref q_53, .ref q_55, .ref q_57, .int 0, .ref q_59, .ref q_61, .ref q_63, .int (-1), .int 0, .int 0, .int 0, .int 0, .ref q_65, .int 0, .ref q_68, .int 0, .int (-1), .int 0, .int 0, .ref q_70, .ref q_72])), (q_68, .inl (cA_69, 8192, .inl f_0))] sz) [(h0, .inr (16, [.ref q_1, .ref q_12, .ref q_17, .ref q_22, .ref q_24, .ref q_26, .ref q_28, .ref q_29, .ref q_31, .ref q_33, .ref q_35, .int 0, .ref q_37, .ref q_39, .ref q_41, .ref q_43, .ref q_45, .ref q_47, .ref q_49, .ref q_51, .ref q_53, .ref q_55, .ref q_57, .int 0, .ref q_59, .ref q_61, .ref q_63, .int (-1), .int 0, .int 0, .int 0, .int 0, .ref q_65, .int 0, .ref q_68, .int 0, .int (-1), .int 0, .int 0, .ref q_70, .ref q_72])), (q_68, .inl (cA_69, 8192, .inl g0_9))]) (va_A [(h0, .inr (16, [.ref q_1, .ref q_12, .ref q_17, .ref q_22, .ref q_24, .ref q_26, .ref q_28, .ref q_29, .ref q_31, .ref q_33, .ref q_35, .int 0, .ref q_37, .ref q_39, .ref q_41, .ref q_43, .ref q_45, .ref q_47, .ref q_49, .ref q_51, .ref q_53, .ref q_55, .ref q_57, .int 0, .ref q_59, .ref q_61, .ref q_63, .int (-1), .int 0, .int 0, .int 0, .int 0, .ref q_65, .int 0, .ref q_68, .int 0, .int (-1), .int 0, .int 0, .ref q_70, .ref q_72])), (q_68, .inl (cA_69, 8192, .inl f_0))] sz)) 0 0 (va_A [(h0, .inr (16, [.ref q_1, .ref q_12, .ref q_17, .ref q_22, .ref q_24, .ref q_26, .ref q_28, .ref q_29, .ref q_31, .ref q_33, .ref q_35, .int 0, .ref q_37, .ref q_39, .ref q_41, .ref q_43, .ref q_45, .ref q_47, .ref q_49, .ref q_51, .ref q_53, .ref q_55, .ref q_57, .int 0, .ref q_59, .ref q_61, .ref q_63, .int (-1), .int 0, .int 0, .int 0, .int 0, .ref q_65, .int 0, .ref q_68, .int 0, .int (-1), .int 0, .int 0, .ref q_70, .ref q_72])), (q_68, .inl (cA_69, 8192, .inl f_0))] sz) := by
  refine Met.ofW (cc := cX19_word) (maxL := 4) (ret := none) (by decide) rfl ?_
  intro p e s m args below meth c s₁ B hml hv
  obtain ⟨rfl, hsz, hP, hK, hD0⟩ := hv
  have hx := B.exec
  have hb := B.bytes
  have hr := B.returns
  have hts := atoms_spec (ws := v_X19_word4) B.pre
  have hown : s.vm.findClass RX19 = some m.cls := findClass_of_methodNamed B.named
  have hlocks := B.notSynchronized
  have ow : ∀ {k : Nat} {w : Cond}, o_X19_word4[k]? = some w → w.before ([.ref h0, .int p0, .int 4] : List Value).toArray s = true := fun h => hts _ (mow_X19_word4 _ (List.mem_of_getElem? h))
  subst hsz
  have hD := hD0.self (sz := s.heap.size)
  generalize hAe : va_A [(h0, .inr (16, [.ref q_1, .ref q_12, .ref q_17, .ref q_22, .ref q_24, .ref q_26, .ref q_28, .ref q_29, .ref q_31, .ref q_33, .ref q_35, .int 0, .ref q_37, .ref q_39, .ref q_41, .ref q_43, .ref q_45, .ref q_47, .ref q_49, .ref q_51, .ref q_53, .ref q_55, .ref q_57, .int 0, .ref q_59, .ref q_61, .ref q_63, .int (-1), .int 0, .int 0, .int 0, .int 0, .ref q_65, .int 0, .ref q_68, .int 0, .int (-1), .int 0, .int 0, .ref q_70, .ref q_72])), (q_68, .inl (cA_69, 8192, .inl f_0))] s.heap.size = A at hD ⊢
  have hA : ∀ q : Nat, s.heap.size ≤ q → A q := fun q h => by rw [← hAe]; exact Or.inr h
  have hS : va_S A s.heap s.heap [] := va_S.rf
  have hP : va_P (dC, dI) vwP [(h0, .inr (16, [.ref q_1, .ref q_12, .ref q_17, .ref q_22, .ref q_24, .ref q_26, .ref q_28, .ref q_29, .ref q_31, .ref q_33, .ref q_35, .int 0, .ref q_37, .ref q_39, .ref q_41, .ref q_43, .ref q_45, .ref q_47, .ref q_49, .ref q_51, .ref q_53, .ref q_55, .ref q_57, .int 0, .ref q_59, .ref q_61, .ref q_63, .int (-1), .int 0, .int 0, .int 0, .int 0, .ref q_65, .int 0, .ref q_68, .int 0, .int (-1), .int 0, .int 0, .ref q_70, .ref q_72])), (q_68, .inl (cA_69, 8192, .inl f_0))] s.heap := hP
  have hl := lv_entry ([.ref h0, .int p0, .int 4]) (n := 4) (Nat.le_of_ble_eq_true rfl)
  rw [lg_entry_eq]
  generalize (lg_sl ([.ref h0, .int p0, .int 4]) ++ List.replicate (4 - (lg_sl ([.ref h0, .int p0, .int 4])).length) Slot.unset).toArray = ls at hl ⊢
  have hl : lv_has ls 4 [(0, .ref h0), (1, .int p0), (2, .int 4)] := hl
  obtain ⟨H, hH⟩ : ∃ H, H = s.heap := ⟨_, rfl⟩
  rw [← hH] at hP
  have hS : va_S A s.heap H [] := by rw [hH]; exact hS
  rw [← hH]
  refine lv_iconst (v := 0) hx hb dX19_word_0 (by decide) ?_
  refine lv_istore_n (lv' := [(3, .int 0), (0, .ref h0), (1, .int p0), (2, .int 4)]) hx hb dX19_word_1 rfl hl (by decide) rfl (fun ls hl => ?_)
  refine lv_iload_n hx hb dX19_word_2 rfl (lv_at hl 0 rfl) ?_
  refine lv_iconst (v := 4) hx hb dX19_word_3 (by decide) ?_
  refine lv_icmp_ge (tgt := 31) hx hb dX19_word_4 (by decide) (fun h9 => absurd h9 (by decide)) (fun _ => ?_)
  refine lv_aload_n hx hb dX19_word_7 rfl (lv_at hl 1 rfl) ?_
  refine va_get (D := (dC, dI)) (ci := 16) (v := .ref q_68) (C := RX19) (T := TX19) (N := 41) hx hb hts mem_X19_word4_0 hown hK hP 0 rfl rfl 34 (by decide) (ow (k := 0) rfl) (fun _ h9 => h9) rfl dX19_word_8 ?_
  refine lv_iload_n hx hb dX19_word_11 rfl (lv_at hl 3 rfl) ?_
  refine lv_iload_n hx hb dX19_word_12 rfl (lv_at hl 0 rfl) ?_
  refine lv_iadd hx hb dX19_word_13 ?_
  refine lv_topi (fun z ez => ?_)
  obtain rfl : z = 4 := by rw [ez]; decide
  refine lv_iload_n hx hb dX19_word_14 rfl (lv_at hl 2 rfl) ?_
  refine lv_bipush (v := 24) hx hb dX19_word_15 (by decide) ?_
  refine lv_bipush (v := 8) hx hb dX19_word_17 (by decide) ?_
  refine lv_iload_n hx hb dX19_word_19 rfl (lv_at hl 0 rfl) ?_
  refine lv_imul hx hb dX19_word_20 ?_
  refine lv_topi (fun z ez => ?_)
  obtain rfl : z = 0 := by rw [ez]; decide
  refine lv_isub hx hb dX19_word_21 ?_
  refine lv_topi (fun z ez => ?_)
  obtain rfl : z = 24 := by rw [ez]; decide
  refine lv_ishr hx hb dX19_word_22 ?_
  refine lv_i2b hx hb dX19_word_23 rfl ?_
  refine va_bast hx hb hK hP hD hS 1 0 rfl rfl (show vp_in 4 8192 by rw [vp_in_iff]; decide) dX19_word_24 (fun H locs hP hD hS => ?_)
  have hP : va_P (dC, dI) vwP [(h0, .inr (16, [.ref q_1, .ref q_12, .ref q_17, .ref q_22, .ref q_24, .ref q_26, .ref q_28, .ref q_29, .ref q_31, .ref q_33, .ref q_35, .int 0, .ref q_37, .ref q_39, .ref q_41, .ref q_43, .ref q_45, .ref q_47, .ref q_49, .ref q_51, .ref q_53, .ref q_55, .ref q_57, .int 0, .ref q_59, .ref q_61, .ref q_63, .int (-1), .int 0, .int 0, .int 0, .int 0, .ref q_65, .int 0, .ref q_68, .int 0, .int (-1), .int 0, .int 0, .ref q_70, .ref q_72])), (q_68, .inl (cA_69, 8192, .inl (upd f_0 (4 : Int32).toNatClampNeg (vp_nar .byte ((p0 >>> (24 &&& 31)).toInt8.toInt32)))))] H := hP
  have hD : va_D A [(h0, .inr (16, [.ref q_1, .ref q_12, .ref q_17, .ref q_22, .ref q_24, .ref q_26, .ref q_28, .ref q_29, .ref q_31, .ref q_33, .ref q_35, .int 0, .ref q_37, .ref q_39, .ref q_41, .ref q_43, .ref q_45, .ref q_47, .ref q_49, .ref q_51, .ref q_53, .ref q_55, .ref q_57, .int 0, .ref q_59, .ref q_61, .ref q_63, .int (-1), .int 0, .int 0, .int 0, .int 0, .ref q_65, .int 0, .ref q_68, .int 0, .int (-1), .int 0, .int 0, .ref q_70, .ref q_72])), (q_68, .inl (cA_69, 8192, .inl (upd f_0 (4 : Int32).toNatClampNeg (vp_nar .byte ((p0 >>> (24 &&& 31)).toInt8.toInt32)))))] := hD
  generalize (upd f_0 (4 : Int32).toNatClampNeg (vp_nar .byte ((p0 >>> (24 &&& 31)).toInt8.toInt32))) = f_2001 at hP hD
  refine lv_iinc (v := 1) (lv' := [(3, .int 1), (0, .ref h0), (1, .int p0), (2, .int 4)]) hx hb dX19_word_25 hl (k := 0) rfl (by decide) (by decide) rfl (fun ls hl => ?_)
  refine lv_goto (tgt := 2) hx hb dX19_word_28 (by decide) ?_
  refine lv_iload_n hx hb dX19_word_2 rfl (lv_at hl 0 rfl) ?_
  refine lv_iconst (v := 4) hx hb dX19_word_3 (by decide) ?_
  refine lv_icmp_ge (tgt := 31) hx hb dX19_word_4 (by decide) (fun h9 => absurd h9 (by decide)) (fun _ => ?_)
  refine lv_aload_n hx hb dX19_word_7 rfl (lv_at hl 1 rfl) ?_
  refine va_get (D := (dC, dI)) (ci := 16) (v := .ref q_68) (C := RX19) (T := TX19) (N := 41) hx hb hts mem_X19_word4_0 hown hK hP 0 rfl rfl 34 (by decide) (ow (k := 0) rfl) (fun _ h9 => h9) rfl dX19_word_8 ?_
  refine lv_iload_n hx hb dX19_word_11 rfl (lv_at hl 3 rfl) ?_
  refine lv_iload_n hx hb dX19_word_12 rfl (lv_at hl 0 rfl) ?_
  refine lv_iadd hx hb dX19_word_13 ?_
  refine lv_topi (fun z ez => ?_)
  obtain rfl : z = 5 := by rw [ez]; decide
  refine lv_iload_n hx hb dX19_word_14 rfl (lv_at hl 2 rfl) ?_
  refine lv_bipush (v := 24) hx hb dX19_word_15 (by decide) ?_
  refine lv_bipush (v := 8) hx hb dX19_word_17 (by decide) ?_
  refine lv_iload_n hx hb dX19_word_19 rfl (lv_at hl 0 rfl) ?_
  refine lv_imul hx hb dX19_word_20 ?_
  refine lv_topi (fun z ez => ?_)
  obtain rfl : z = 8 := by rw [ez]; decide
  refine lv_isub hx hb dX19_word_21 ?_
  refine lv_topi (fun z ez => ?_)
  obtain rfl : z = 16 := by rw [ez]; decide
  refine lv_ishr hx hb dX19_word_22 ?_
  refine lv_i2b hx hb dX19_word_23 rfl ?_
  refine va_bast hx hb hK hP hD hS 1 0 rfl rfl (show vp_in 5 8192 by rw [vp_in_iff]; decide) dX19_word_24 (fun H locs hP hD hS => ?_)
  have hP : va_P (dC, dI) vwP [(h0, .inr (16, [.ref q_1, .ref q_12, .ref q_17, .ref q_22, .ref q_24, .ref q_26, .ref q_28, .ref q_29, .ref q_31, .ref q_33, .ref q_35, .int 0, .ref q_37, .ref q_39, .ref q_41, .ref q_43, .ref q_45, .ref q_47, .ref q_49, .ref q_51, .ref q_53, .ref q_55, .ref q_57, .int 0, .ref q_59, .ref q_61, .ref q_63, .int (-1), .int 0, .int 0, .int 0, .int 0, .ref q_65, .int 0, .ref q_68, .int 0, .int (-1), .int 0, .int 0, .ref q_70, .ref q_72])), (q_68, .inl (cA_69, 8192, .inl (upd f_2001 (5 : Int32).toNatClampNeg (vp_nar .byte ((p0 >>> (16 &&& 31)).toInt8.toInt32)))))] H := hP
  have hD : va_D A [(h0, .inr (16, [.ref q_1, .ref q_12, .ref q_17, .ref q_22, .ref q_24, .ref q_26, .ref q_28, .ref q_29, .ref q_31, .ref q_33, .ref q_35, .int 0, .ref q_37, .ref q_39, .ref q_41, .ref q_43, .ref q_45, .ref q_47, .ref q_49, .ref q_51, .ref q_53, .ref q_55, .ref q_57, .int 0, .ref q_59, .ref q_61, .ref q_63, .int (-1), .int 0, .int 0, .int 0, .int 0, .ref q_65, .int 0, .ref q_68, .int 0, .int (-1), .int 0, .int 0, .ref q_70, .ref q_72])), (q_68, .inl (cA_69, 8192, .inl (upd f_2001 (5 : Int32).toNatClampNeg (vp_nar .byte ((p0 >>> (16 &&& 31)).toInt8.toInt32)))))] := hD
  generalize (upd f_2001 (5 : Int32).toNatClampNeg (vp_nar .byte ((p0 >>> (16 &&& 31)).toInt8.toInt32))) = f_2002 at hP hD
  refine lv_iinc (v := 2) (lv' := [(3, .int 2), (0, .ref h0), (1, .int p0), (2, .int 4)]) hx hb dX19_word_25 hl (k := 0) rfl (by decide) (by decide) rfl (fun ls hl => ?_)
  refine lv_goto (tgt := 2) hx hb dX19_word_28 (by decide) ?_
  refine lv_iload_n hx hb dX19_word_2 rfl (lv_at hl 0 rfl) ?_
  refine lv_iconst (v := 4) hx hb dX19_word_3 (by decide) ?_
  refine lv_icmp_ge (tgt := 31) hx hb dX19_word_4 (by decide) (fun h9 => absurd h9 (by decide)) (fun _ => ?_)
  refine lv_aload_n hx hb dX19_word_7 rfl (lv_at hl 1 rfl) ?_
  refine va_get (D := (dC, dI)) (ci := 16) (v := .ref q_68) (C := RX19) (T := TX19) (N := 41) hx hb hts mem_X19_word4_0 hown hK hP 0 rfl rfl 34 (by decide) (ow (k := 0) rfl) (fun _ h9 => h9) rfl dX19_word_8 ?_
  refine lv_iload_n hx hb dX19_word_11 rfl (lv_at hl 3 rfl) ?_
  refine lv_iload_n hx hb dX19_word_12 rfl (lv_at hl 0 rfl) ?_
  refine lv_iadd hx hb dX19_word_13 ?_
  refine lv_topi (fun z ez => ?_)
  obtain rfl : z = 6 := by rw [ez]; decide
  refine lv_iload_n hx hb dX19_word_14 rfl (lv_at hl 2 rfl) ?_
  refine lv_bipush (v := 24) hx hb dX19_word_15 (by decide) ?_
  refine lv_bipush (v := 8) hx hb dX19_word_17 (by decide) ?_
  refine lv_iload_n hx hb dX19_word_19 rfl (lv_at hl 0 rfl) ?_
  refine lv_imul hx hb dX19_word_20 ?_
  refine lv_topi (fun z ez => ?_)
  obtain rfl : z = 16 := by rw [ez]; decide
  refine lv_isub hx hb dX19_word_21 ?_
  refine lv_topi (fun z ez => ?_)
  obtain rfl : z = 8 := by rw [ez]; decide
  refine lv_ishr hx hb dX19_word_22 ?_
  refine lv_i2b hx hb dX19_word_23 rfl ?_
  refine va_bast hx hb hK hP hD hS 1 0 rfl rfl (show vp_in 6 8192 by rw [vp_in_iff]; decide) dX19_word_24 (fun H locs hP hD hS => ?_)
  have hP : va_P (dC, dI) vwP [(h0, .inr (16, [.ref q_1, .ref q_12, .ref q_17, .ref q_22, .ref q_24, .ref q_26, .ref q_28, .ref q_29, .ref q_31, .ref q_33, .ref q_35, .int 0, .ref q_37, .ref q_39, .ref q_41, .ref q_43, .ref q_45, .ref q_47, .ref q_49, .ref q_51, .ref q_53, .ref q_55, .ref q_57, .int 0, .ref q_59, .ref q_61, .ref q_63, .int (-1), .int 0, .int 0, .int 0, .int 0, .ref q_65, .int 0, .ref q_68, .int 0, .int (-1), .int 0, .int 0, .ref q_70, .ref q_72])), (q_68, .inl (cA_69, 8192, .inl (upd f_2002 (6 : Int32).toNatClampNeg (vp_nar .byte ((p0 >>> (8 &&& 31)).toInt8.toInt32)))))] H := hP
  have hD : va_D A [(h0, .inr (16, [.ref q_1, .ref q_12, .ref q_17, .ref q_22, .ref q_24, .ref q_26, .ref q_28, .ref q_29, .ref q_31, .ref q_33, .ref q_35, .int 0, .ref q_37, .ref q_39, .ref q_41, .ref q_43, .ref q_45, .ref q_47, .ref q_49, .ref q_51, .ref q_53, .ref q_55, .ref q_57, .int 0, .ref q_59, .ref q_61, .ref q_63, .int (-1), .int 0, .int 0, .int 0, .int 0, .ref q_65, .int 0, .ref q_68, .int 0, .int (-1), .int 0, .int 0, .ref q_70, .ref q_72])), (q_68, .inl (cA_69, 8192, .inl (upd f_2002 (6 : Int32).toNatClampNeg (vp_nar .byte ((p0 >>> (8 &&& 31)).toInt8.toInt32)))))] := hD
  generalize (upd f_2002 (6 : Int32).toNatClampNeg (vp_nar .byte ((p0 >>> (8 &&& 31)).toInt8.toInt32))) = f_2003 at hP hD
  refine lv_iinc (v := 3) (lv' := [(3, .int 3), (0, .ref h0), (1, .int p0), (2, .int 4)]) hx hb dX19_word_25 hl (k := 0) rfl (by decide) (by decide) rfl (fun ls hl => ?_)
  refine lv_goto (tgt := 2) hx hb dX19_word_28 (by decide) ?_
  refine lv_iload_n hx hb dX19_word_2 rfl (lv_at hl 0 rfl) ?_
  refine lv_iconst (v := 4) hx hb dX19_word_3 (by decide) ?_
  refine lv_icmp_ge (tgt := 31) hx hb dX19_word_4 (by decide) (fun h9 => absurd h9 (by decide)) (fun _ => ?_)
  refine lv_aload_n hx hb dX19_word_7 rfl (lv_at hl 1 rfl) ?_
  refine va_get (D := (dC, dI)) (ci := 16) (v := .ref q_68) (C := RX19) (T := TX19) (N := 41) hx hb hts mem_X19_word4_0 hown hK hP 0 rfl rfl 34 (by decide) (ow (k := 0) rfl) (fun _ h9 => h9) rfl dX19_word_8 ?_
  refine lv_iload_n hx hb dX19_word_11 rfl (lv_at hl 3 rfl) ?_
  refine lv_iload_n hx hb dX19_word_12 rfl (lv_at hl 0 rfl) ?_
  refine lv_iadd hx hb dX19_word_13 ?_
  refine lv_topi (fun z ez => ?_)
  obtain rfl : z = 7 := by rw [ez]; decide
  refine lv_iload_n hx hb dX19_word_14 rfl (lv_at hl 2 rfl) ?_
  refine lv_bipush (v := 24) hx hb dX19_word_15 (by decide) ?_
  refine lv_bipush (v := 8) hx hb dX19_word_17 (by decide) ?_
  refine lv_iload_n hx hb dX19_word_19 rfl (lv_at hl 0 rfl) ?_
  refine lv_imul hx hb dX19_word_20 ?_
  refine lv_topi (fun z ez => ?_)
  obtain rfl : z = 24 := by rw [ez]; decide
  refine lv_isub hx hb dX19_word_21 ?_
  refine lv_topi (fun z ez => ?_)
  obtain rfl : z = 0 := by rw [ez]; decide
  refine lv_ishr hx hb dX19_word_22 ?_
  refine lv_i2b hx hb dX19_word_23 rfl ?_
  refine va_bast hx hb hK hP hD hS 1 0 rfl rfl (show vp_in 7 8192 by rw [vp_in_iff]; decide) dX19_word_24 (fun H locs hP hD hS => ?_)
  have hP : va_P (dC, dI) vwP [(h0, .inr (16, [.ref q_1, .ref q_12, .ref q_17, .ref q_22, .ref q_24, .ref q_26, .ref q_28, .ref q_29, .ref q_31, .ref q_33, .ref q_35, .int 0, .ref q_37, .ref q_39, .ref q_41, .ref q_43, .ref q_45, .ref q_47, .ref q_49, .ref q_51, .ref q_53, .ref q_55, .ref q_57, .int 0, .ref q_59, .ref q_61, .ref q_63, .int (-1), .int 0, .int 0, .int 0, .int 0, .ref q_65, .int 0, .ref q_68, .int 0, .int (-1), .int 0, .int 0, .ref q_70, .ref q_72])), (q_68, .inl (cA_69, 8192, .inl (upd f_2003 (7 : Int32).toNatClampNeg (vp_nar .byte ((p0 >>> (0 &&& 31)).toInt8.toInt32)))))] H := hP
  have hD : va_D A [(h0, .inr (16, [.ref q_1, .ref q_12, .ref q_17, .ref q_22, .ref q_24, .ref q_26, .ref q_28, .ref q_29, .ref q_31, .ref q_33, .ref q_35, .int 0, .ref q_37, .ref q_39, .ref q_41, .ref q_43, .ref q_45, .ref q_47, .ref q_49, .ref q_51, .ref q_53, .ref q_55, .ref q_57, .int 0, .ref q_59, .ref q_61, .ref q_63, .int (-1), .int 0, .int 0, .int 0, .int 0, .ref q_65, .int 0, .ref q_68, .int 0, .int (-1), .int 0, .int 0, .ref q_70, .ref q_72])), (q_68, .inl (cA_69, 8192, .inl (upd f_2003 (7 : Int32).toNatClampNeg (vp_nar .byte ((p0 >>> (0 &&& 31)).toInt8.toInt32)))))] := hD
  generalize (upd f_2003 (7 : Int32).toNatClampNeg (vp_nar .byte ((p0 >>> (0 &&& 31)).toInt8.toInt32))) = f_2004 at hP hD
  refine lv_iinc (v := 4) (lv' := [(3, .int 4), (0, .ref h0), (1, .int p0), (2, .int 4)]) hx hb dX19_word_25 hl (k := 0) rfl (by decide) (by decide) rfl (fun ls hl => ?_)
  refine lv_goto (tgt := 2) hx hb dX19_word_28 (by decide) ?_
  refine lv_iload_n hx hb dX19_word_2 rfl (lv_at hl 0 rfl) ?_
  refine lv_iconst (v := 4) hx hb dX19_word_3 (by decide) ?_
  refine lv_icmp_ge (tgt := 31) hx hb dX19_word_4 (by decide) (fun _ => ?_) (fun h9 => absurd h9 (by decide))
  refine W.widen (k := 0) (n := 0) (Nat.le_of_ble_eq_true rfl) (Nat.le_of_ble_eq_true rfl) ?_
  exact W.vret hx hb hr (fun t ht hW => ⟨⟨(), rfl, trivial, f_2004, by rw [ht]; exact hP, va_K.moved hW.alike hK, hD⟩, hS.F ht⟩) hS.2.2 dX19_word_31
def o_X19_word8 : List Cond := [.fieldLink RX19 551 "SsaForgeModel" "tape" "[B"]
def v_X19_word8 : List Cond := .code yX19_word cX19_word 4 none :: (o_X19_word8 ++ (wsX190 ++ []))
theorem mow_X19_word8 : ∀ w ∈ o_X19_word8, w ∈ v_X19_word8 := fun _ h => List.mem_cons_of_mem _ (List.mem_append_left _ h)
theorem mem_X19_word8_0 : ∀ w ∈ wsX190, w ∈ v_X19_word8 := fun _ h => List.mem_cons_of_mem _ (List.mem_append_right _ (List.mem_append_left _ h))
set_option maxRecDepth 20000 in
theorem gw_X19_word8 : v_X19_word8.all goodWord = true := by decide +kernel
set_option maxHeartbeats 4000000 in
set_option maxRecDepth 100000 in
theorem c_X19_word8 (l : Launch) (dC : Nat → ClassId) (dI : Nat → Nat → Nat) (h0 : Nat) (q_1 : Nat) (q_12 : Nat) (q_17 : Nat) (q_22 : Nat) (q_24 : Nat) (q_26 : Nat) (q_28 : Nat) (q_29 : Nat) (q_31 : Nat) (q_33 : Nat) (q_35 : Nat) (q_37 : Nat) (q_39 : Nat) (q_41 : Nat) (q_43 : Nat) (q_45 : Nat) (q_47 : Nat) (q_49 : Nat) (q_51 : Nat) (q_53 : Nat) (q_55 : Nat) (q_57 : Nat) (q_59 : Nat) (q_61 : Nat) (q_63 : Nat) (q_65 : Nat) (q_68 : Nat) (q_70 : Nat) (q_72 : Nat) (cA_69 : ClassId) (f_0 : Nat → Int32) (p0 : Int32) (sz : Nat) : Met l yX19_word v_X19_word8 ({ frames := 0, cells := 0, slots := 0, locals := 0 }) (va_Pc [.ref h0, .int p0, .int 8] (fun U => U.heap.size = sz ∧ va_P (dC, dI) vwP [(h0, .inr (16, [.ref q_1, .ref q_12, .ref q_17, .ref q_22, .ref q_24, .ref q_26, .ref q_28, .ref q_29, .ref q_31, .ref q_33, .ref q_35, .int 0, .ref q_37, .ref q_39, .ref q_41, .ref q_43, .ref q_45, .ref q_47, .ref q_49, .ref q_51, .ref q_53, .ref q_55, .ref q_57, .int 0, .ref q_59, .ref q_61, .ref q_63, .int (-1), .int 0, .int 0, .int 0, .int 0, .ref q_65, .int 0, .ref q_68, .int 0, .int (-1), .int 0, .int 0, .ref q_70, .ref q_72])), (q_68, .inl (cA_69, 8192, .inl f_0))] U.heap ∧ va_K (dC, dI) vwP [(cA_69, .byte)] U ∧ va_D (fun _ => True) [(h0, .inr (16, [.ref q_1, .ref q_12, .ref q_17, .ref q_22, .ref q_24, .ref q_26, .ref q_28, .ref q_29, .ref q_31, .ref q_33, .ref q_35, .int 0, .ref q_37, .ref q_39, .ref q_41, .ref q_43, .ref q_45, .ref q_47, .ref q_49, .ref q_51, .ref q_53, .ref q_55, .ref q_57, .int 0, .ref q_59, .ref q_61, .ref q_63, .int (-1), .int 0, .int 0, .int 0, .int 0, .ref q_65, .int 0, .ref q_68, .int 0, .int (-1), .int 0, .int 0, .ref q_70, .ref q_72])), (q_68, .inl (cA_69, 8192, .inl f_0))])) (va_Qv (fun _ : Unit => True) (fun (_ : Unit) (t : State) => ∃ (g0_9 : Nat → Int32), va_P (dC, dI) vwP [(h0, .inr (16, [.ref q_1, .ref q_12, .ref q_17, .ref q_22, .ref q_24, .ref q_26, .ref q_28, .ref q_29, .ref q_31, .ref q_33, .ref q_35, .int 0, .ref q_37, .ref q_39, .ref q_41, .ref q_43, .ref q_45, .ref q_47, .ref q_49, .ref q_51, .ref q_53, .ref q_55, .ref q_57, .int 0, .ref q_59, .ref q_61, .ref q_63, .int (-1), .int 0, .int 0, .int 0, .int 0, .ref q_65, .int 0, .ref q_68, .int 0, .int (-1), .int 0, .int 0, .ref q_70, .ref q_72])), (q_68, .inl (cA_69, 8192, .inl g0_9))] t.heap ∧ va_K (dC, dI) vwP [(cA_69, .byte)] t ∧ va_D (va_A [(h0, .inr (16, [.ref q_1, .ref q_12, .ref q_17, .ref q_22, .ref q_24, .ref q_26, .ref q_28, .ref q_29, .ref q_31, .ref q_33, .ref q_35, .int 0, .ref q_37, .ref q_39, .ref q_41, .ref q_43, .ref q_45, .ref q_47, .ref q_49, .ref q_51, .ref q_53, .ref q_55, .ref q_57, .int 0, .ref q_59, .ref q_61, .ref q_63, .int (-1), .int 0, .int 0, .int 0, .int 0, .ref q_65, .int 0, .ref q_68, .int 0, .int (-1), .int 0, .int 0, .ref q_70, .ref q_72])), (q_68, .inl (cA_69, 8192, .inl f_0))] sz) [(h0, .inr (16, [.ref q_1, .ref q_12, .ref q_17, .ref q_22, .ref q_24, .ref q_26, .ref q_28, .ref q_29, .ref q_31, .ref q_33, .ref q_35, .int 0, .ref q_37, .ref q_39, .ref q_41, .ref q_43, .ref q_45, .ref q_47, .ref q_49, .ref q_51, .ref q_53, .ref q_55, .ref q_57, .int 0, .ref q_59, .ref q_61, .ref q_63, .int (-1), .int 0, .int 0, .int 0, .int 0, .ref q_65, .int 0, .ref q_68, .int 0, .int (-1), .int 0, .int 0, .ref q_70, .ref q_72])), (q_68, .inl (cA_69, 8192, .inl g0_9))]) (va_A [(h0, .inr (16, [.ref q_1, .ref q_12, .ref q_17, .ref q_22, .ref q_24, .ref q_26, .ref q_28, .ref q_29, .ref q_31, .ref q_33, .ref q_35, .int 0, .ref q_37, .ref q_39, .ref q_41, .ref q_43, .ref q_45, .ref q_47, .ref q_49, .ref q_51, .ref q_53, .ref q_55, .ref q_57, .int 0, .ref q_59, .ref q_61, .ref q_63, .int (-1), .int 0, .int 0, .int 0, .int 0, .ref q_65, .int 0, .ref q_68, .int 0, .int (-1), .int 0, .int 0, .ref q_70, .ref q_72])), (q_68, .inl (cA_69, 8192, .inl f_0))] sz)) 0 0 (va_A [(h0, .inr (16, [.ref q_1, .ref q_12, .ref q_17, .ref q_22, .ref q_24, .ref q_26, .ref q_28, .ref q_29, .ref q_31, .ref q_33, .ref q_35, .int 0, .ref q_37, .ref q_39, .ref q_41, .ref q_43, .ref q_45, .ref q_47, .ref q_49, .ref q_51, .ref q_53, .ref q_55, .ref q_57, .int 0, .ref q_59, .ref q_61, .ref q_63, .int (-1), .int 0, .int 0, .int 0, .int 0, .ref q_65, .int 0, .ref q_68, .int 0, .int (-1), .int 0, .int 0, .ref q_70, .ref q_72])), (q_68, .inl (cA_69, 8192, .inl f_0))] sz) := by
  refine Met.ofW (cc := cX19_word) (maxL := 4) (ret := none) (by decide) rfl ?_
  intro p e s m args below meth c s₁ B hml hv
  obtain ⟨rfl, hsz, hP, hK, hD0⟩ := hv
  have hx := B.exec
  have hb := B.bytes
  have hr := B.returns
  have hts := atoms_spec (ws := v_X19_word8) B.pre
  have hown : s.vm.findClass RX19 = some m.cls := findClass_of_methodNamed B.named
  have hlocks := B.notSynchronized
  have ow : ∀ {k : Nat} {w : Cond}, o_X19_word8[k]? = some w → w.before ([.ref h0, .int p0, .int 8] : List Value).toArray s = true := fun h => hts _ (mow_X19_word8 _ (List.mem_of_getElem? h))
  subst hsz
  have hD := hD0.self (sz := s.heap.size)
  generalize hAe : va_A [(h0, .inr (16, [.ref q_1, .ref q_12, .ref q_17, .ref q_22, .ref q_24, .ref q_26, .ref q_28, .ref q_29, .ref q_31, .ref q_33, .ref q_35, .int 0, .ref q_37, .ref q_39, .ref q_41, .ref q_43, .ref q_45, .ref q_47, .ref q_49, .ref q_51, .ref q_53, .ref q_55, .ref q_57, .int 0, .ref q_59, .ref q_61, .ref q_63, .int (-1), .int 0, .int 0, .int 0, .int 0, .ref q_65, .int 0, .ref q_68, .int 0, .int (-1), .int 0, .int 0, .ref q_70, .ref q_72])), (q_68, .inl (cA_69, 8192, .inl f_0))] s.heap.size = A at hD ⊢
  have hA : ∀ q : Nat, s.heap.size ≤ q → A q := fun q h => by rw [← hAe]; exact Or.inr h
  have hS : va_S A s.heap s.heap [] := va_S.rf
  have hP : va_P (dC, dI) vwP [(h0, .inr (16, [.ref q_1, .ref q_12, .ref q_17, .ref q_22, .ref q_24, .ref q_26, .ref q_28, .ref q_29, .ref q_31, .ref q_33, .ref q_35, .int 0, .ref q_37, .ref q_39, .ref q_41, .ref q_43, .ref q_45, .ref q_47, .ref q_49, .ref q_51, .ref q_53, .ref q_55, .ref q_57, .int 0, .ref q_59, .ref q_61, .ref q_63, .int (-1), .int 0, .int 0, .int 0, .int 0, .ref q_65, .int 0, .ref q_68, .int 0, .int (-1), .int 0, .int 0, .ref q_70, .ref q_72])), (q_68, .inl (cA_69, 8192, .inl f_0))] s.heap := hP
  have hl := lv_entry ([.ref h0, .int p0, .int 8]) (n := 4) (Nat.le_of_ble_eq_true rfl)
  rw [lg_entry_eq]
  generalize (lg_sl ([.ref h0, .int p0, .int 8]) ++ List.replicate (4 - (lg_sl ([.ref h0, .int p0, .int 8])).length) Slot.unset).toArray = ls at hl ⊢
  have hl : lv_has ls 4 [(0, .ref h0), (1, .int p0), (2, .int 8)] := hl
  obtain ⟨H, hH⟩ : ∃ H, H = s.heap := ⟨_, rfl⟩
  rw [← hH] at hP
  have hS : va_S A s.heap H [] := by rw [hH]; exact hS
  rw [← hH]
  refine lv_iconst (v := 0) hx hb dX19_word_0 (by decide) ?_
  refine lv_istore_n (lv' := [(3, .int 0), (0, .ref h0), (1, .int p0), (2, .int 8)]) hx hb dX19_word_1 rfl hl (by decide) rfl (fun ls hl => ?_)
  refine lv_iload_n hx hb dX19_word_2 rfl (lv_at hl 0 rfl) ?_
  refine lv_iconst (v := 4) hx hb dX19_word_3 (by decide) ?_
  refine lv_icmp_ge (tgt := 31) hx hb dX19_word_4 (by decide) (fun h9 => absurd h9 (by decide)) (fun _ => ?_)
  refine lv_aload_n hx hb dX19_word_7 rfl (lv_at hl 1 rfl) ?_
  refine va_get (D := (dC, dI)) (ci := 16) (v := .ref q_68) (C := RX19) (T := TX19) (N := 41) hx hb hts mem_X19_word8_0 hown hK hP 0 rfl rfl 34 (by decide) (ow (k := 0) rfl) (fun _ h9 => h9) rfl dX19_word_8 ?_
  refine lv_iload_n hx hb dX19_word_11 rfl (lv_at hl 3 rfl) ?_
  refine lv_iload_n hx hb dX19_word_12 rfl (lv_at hl 0 rfl) ?_
  refine lv_iadd hx hb dX19_word_13 ?_
  refine lv_topi (fun z ez => ?_)
  obtain rfl : z = 8 := by rw [ez]; decide
  refine lv_iload_n hx hb dX19_word_14 rfl (lv_at hl 2 rfl) ?_
  refine lv_bipush (v := 24) hx hb dX19_word_15 (by decide) ?_
  refine lv_bipush (v := 8) hx hb dX19_word_17 (by decide) ?_
  refine lv_iload_n hx hb dX19_word_19 rfl (lv_at hl 0 rfl) ?_
  refine lv_imul hx hb dX19_word_20 ?_
  refine lv_topi (fun z ez => ?_)
  obtain rfl : z = 0 := by rw [ez]; decide
  refine lv_isub hx hb dX19_word_21 ?_
  refine lv_topi (fun z ez => ?_)
  obtain rfl : z = 24 := by rw [ez]; decide
  refine lv_ishr hx hb dX19_word_22 ?_
  refine lv_i2b hx hb dX19_word_23 rfl ?_
  refine va_bast hx hb hK hP hD hS 1 0 rfl rfl (show vp_in 8 8192 by rw [vp_in_iff]; decide) dX19_word_24 (fun H locs hP hD hS => ?_)
  have hP : va_P (dC, dI) vwP [(h0, .inr (16, [.ref q_1, .ref q_12, .ref q_17, .ref q_22, .ref q_24, .ref q_26, .ref q_28, .ref q_29, .ref q_31, .ref q_33, .ref q_35, .int 0, .ref q_37, .ref q_39, .ref q_41, .ref q_43, .ref q_45, .ref q_47, .ref q_49, .ref q_51, .ref q_53, .ref q_55, .ref q_57, .int 0, .ref q_59, .ref q_61, .ref q_63, .int (-1), .int 0, .int 0, .int 0, .int 0, .ref q_65, .int 0, .ref q_68, .int 0, .int (-1), .int 0, .int 0, .ref q_70, .ref q_72])), (q_68, .inl (cA_69, 8192, .inl (upd f_0 (8 : Int32).toNatClampNeg (vp_nar .byte ((p0 >>> (24 &&& 31)).toInt8.toInt32)))))] H := hP
  have hD : va_D A [(h0, .inr (16, [.ref q_1, .ref q_12, .ref q_17, .ref q_22, .ref q_24, .ref q_26, .ref q_28, .ref q_29, .ref q_31, .ref q_33, .ref q_35, .int 0, .ref q_37, .ref q_39, .ref q_41, .ref q_43, .ref q_45, .ref q_47, .ref q_49, .ref q_51, .ref q_53, .ref q_55, .ref q_57, .int 0, .ref q_59, .ref q_61, .ref q_63, .int (-1), .int 0, .int 0, .int 0, .int 0, .ref q_65, .int 0, .ref q_68, .int 0, .int (-1), .int 0, .int 0, .ref q_70, .ref q_72])), (q_68, .inl (cA_69, 8192, .inl (upd f_0 (8 : Int32).toNatClampNeg (vp_nar .byte ((p0 >>> (24 &&& 31)).toInt8.toInt32)))))] := hD
  generalize (upd f_0 (8 : Int32).toNatClampNeg (vp_nar .byte ((p0 >>> (24 &&& 31)).toInt8.toInt32))) = f_2001 at hP hD
  refine lv_iinc (v := 1) (lv' := [(3, .int 1), (0, .ref h0), (1, .int p0), (2, .int 8)]) hx hb dX19_word_25 hl (k := 0) rfl (by decide) (by decide) rfl (fun ls hl => ?_)
  refine lv_goto (tgt := 2) hx hb dX19_word_28 (by decide) ?_
  refine lv_iload_n hx hb dX19_word_2 rfl (lv_at hl 0 rfl) ?_
  refine lv_iconst (v := 4) hx hb dX19_word_3 (by decide) ?_
  refine lv_icmp_ge (tgt := 31) hx hb dX19_word_4 (by decide) (fun h9 => absurd h9 (by decide)) (fun _ => ?_)
  refine lv_aload_n hx hb dX19_word_7 rfl (lv_at hl 1 rfl) ?_
  refine va_get (D := (dC, dI)) (ci := 16) (v := .ref q_68) (C := RX19) (T := TX19) (N := 41) hx hb hts mem_X19_word8_0 hown hK hP 0 rfl rfl 34 (by decide) (ow (k := 0) rfl) (fun _ h9 => h9) rfl dX19_word_8 ?_
  refine lv_iload_n hx hb dX19_word_11 rfl (lv_at hl 3 rfl) ?_
  refine lv_iload_n hx hb dX19_word_12 rfl (lv_at hl 0 rfl) ?_
  refine lv_iadd hx hb dX19_word_13 ?_
  refine lv_topi (fun z ez => ?_)
  obtain rfl : z = 9 := by rw [ez]; decide
  refine lv_iload_n hx hb dX19_word_14 rfl (lv_at hl 2 rfl) ?_
  refine lv_bipush (v := 24) hx hb dX19_word_15 (by decide) ?_
  refine lv_bipush (v := 8) hx hb dX19_word_17 (by decide) ?_
  refine lv_iload_n hx hb dX19_word_19 rfl (lv_at hl 0 rfl) ?_
  refine lv_imul hx hb dX19_word_20 ?_
  refine lv_topi (fun z ez => ?_)
  obtain rfl : z = 8 := by rw [ez]; decide
  refine lv_isub hx hb dX19_word_21 ?_
  refine lv_topi (fun z ez => ?_)
  obtain rfl : z = 16 := by rw [ez]; decide
  refine lv_ishr hx hb dX19_word_22 ?_
  refine lv_i2b hx hb dX19_word_23 rfl ?_
  refine va_bast hx hb hK hP hD hS 1 0 rfl rfl (show vp_in 9 8192 by rw [vp_in_iff]; decide) dX19_word_24 (fun H locs hP hD hS => ?_)
  have hP : va_P (dC, dI) vwP [(h0, .inr (16, [.ref q_1, .ref q_12, .ref q_17, .ref q_22, .ref q_24, .ref q_26, .ref q_28, .ref q_29, .ref q_31, .ref q_33, .ref q_35, .int 0, .ref q_37, .ref q_39, .ref q_41, .ref q_43, .ref q_45, .ref q_47, .ref q_49, .ref q_51, .ref q_53, .ref q_55, .ref q_57, .int 0, .ref q_59, .ref q_61, .ref q_63, .int (-1), .int 0, .int 0, .int 0, .int 0, .ref q_65, .int 0, .ref q_68, .int 0, .int (-1), .int 0, .int 0, .ref q_70, .ref q_72])), (q_68, .inl (cA_69, 8192, .inl (upd f_2001 (9 : Int32).toNatClampNeg (vp_nar .byte ((p0 >>> (16 &&& 31)).toInt8.toInt32)))))] H := hP
  have hD : va_D A [(h0, .inr (16, [.ref q_1, .ref q_12, .ref q_17, .ref q_22, .ref q_24, .ref q_26, .ref q_28, .ref q_29, .ref q_31, .ref q_33, .ref q_35, .int 0, .ref q_37, .ref q_39, .ref q_41, .ref q_43, .ref q_45, .ref q_47, .ref q_49, .ref q_51, .ref q_53, .ref q_55, .ref q_57, .int 0, .ref q_59, .ref q_61, .ref q_63, .int (-1), .int 0, .int 0, .int 0, .int 0, .ref q_65, .int 0, .ref q_68, .int 0, .int (-1), .int 0, .int 0, .ref q_70, .ref q_72])), (q_68, .inl (cA_69, 8192, .inl (upd f_2001 (9 : Int32).toNatClampNeg (vp_nar .byte ((p0 >>> (16 &&& 31)).toInt8.toInt32)))))] := hD
  generalize (upd f_2001 (9 : Int32).toNatClampNeg (vp_nar .byte ((p0 >>> (16 &&& 31)).toInt8.toInt32))) = f_2002 at hP hD
  refine lv_iinc (v := 2) (lv' := [(3, .int 2), (0, .ref h0), (1, .int p0), (2, .int 8)]) hx hb dX19_word_25 hl (k := 0) rfl (by decide) (by decide) rfl (fun ls hl => ?_)
  refine lv_goto (tgt := 2) hx hb dX19_word_28 (by decide) ?_
  refine lv_iload_n hx hb dX19_word_2 rfl (lv_at hl 0 rfl) ?_
  refine lv_iconst (v := 4) hx hb dX19_word_3 (by decide) ?_
  refine lv_icmp_ge (tgt := 31) hx hb dX19_word_4 (by decide) (fun h9 => absurd h9 (by decide)) (fun _ => ?_)
  refine lv_aload_n hx hb dX19_word_7 rfl (lv_at hl 1 rfl) ?_
  refine va_get (D := (dC, dI)) (ci := 16) (v := .ref q_68) (C := RX19) (T := TX19) (N := 41) hx hb hts mem_X19_word8_0 hown hK hP 0 rfl rfl 34 (by decide) (ow (k := 0) rfl) (fun _ h9 => h9) rfl dX19_word_8 ?_
  refine lv_iload_n hx hb dX19_word_11 rfl (lv_at hl 3 rfl) ?_
  refine lv_iload_n hx hb dX19_word_12 rfl (lv_at hl 0 rfl) ?_
  refine lv_iadd hx hb dX19_word_13 ?_
  refine lv_topi (fun z ez => ?_)
  obtain rfl : z = 10 := by rw [ez]; decide
  refine lv_iload_n hx hb dX19_word_14 rfl (lv_at hl 2 rfl) ?_
  refine lv_bipush (v := 24) hx hb dX19_word_15 (by decide) ?_
  refine lv_bipush (v := 8) hx hb dX19_word_17 (by decide) ?_
  refine lv_iload_n hx hb dX19_word_19 rfl (lv_at hl 0 rfl) ?_
  refine lv_imul hx hb dX19_word_20 ?_
  refine lv_topi (fun z ez => ?_)
  obtain rfl : z = 16 := by rw [ez]; decide
  refine lv_isub hx hb dX19_word_21 ?_
  refine lv_topi (fun z ez => ?_)
  obtain rfl : z = 8 := by rw [ez]; decide
  refine lv_ishr hx hb dX19_word_22 ?_
  refine lv_i2b hx hb dX19_word_23 rfl ?_
  refine va_bast hx hb hK hP hD hS 1 0 rfl rfl (show vp_in 10 8192 by rw [vp_in_iff]; decide) dX19_word_24 (fun H locs hP hD hS => ?_)
  have hP : va_P (dC, dI) vwP [(h0, .inr (16, [.ref q_1, .ref q_12, .ref q_17, .ref q_22, .ref q_24, .ref q_26, .ref q_28, .ref q_29, .ref q_31, .ref q_33, .ref q_35, .int 0, .ref q_37, .ref q_39, .ref q_41, .ref q_43, .ref q_45, .ref q_47, .ref q_49, .ref q_51, .ref q_53, .ref q_55, .ref q_57, .int 0, .ref q_59, .ref q_61, .ref q_63, .int (-1), .int 0, .int 0, .int 0, .int 0, .ref q_65, .int 0, .ref q_68, .int 0, .int (-1), .int 0, .int 0, .ref q_70, .ref q_72])), (q_68, .inl (cA_69, 8192, .inl (upd f_2002 (10 : Int32).toNatClampNeg (vp_nar .byte ((p0 >>> (8 &&& 31)).toInt8.toInt32)))))] H := hP
  have hD : va_D A [(h0, .inr (16, [.ref q_1, .ref q_12, .ref q_17, .ref q_22, .ref q_24, .ref q_26, .ref q_28, .ref q_29, .ref q_31, .ref q_33, .ref q_35, .int 0, .ref q_37, .ref q_39, .ref q_41, .ref q_43, .ref q_45, .ref q_47, .ref q_49, .ref q_51, .ref q_53, .ref q_55, .ref q_57, .int 0, .ref q_59, .ref q_61, .ref q_63, .int (-1), .int 0, .int 0, .int 0, .int 0, .ref q_65, .int 0, .ref q_68, .int 0, .int (-1), .int 0, .int 0, .ref q_70, .ref q_72])), (q_68, .inl (cA_69, 8192, .inl (upd f_2002 (10 : Int32).toNatClampNeg (vp_nar .byte ((p0 >>> (8 &&& 31)).toInt8.toInt32)))))] := hD
  generalize (upd f_2002 (10 : Int32).toNatClampNeg (vp_nar .byte ((p0 >>> (8 &&& 31)).toInt8.toInt32))) = f_2003 at hP hD
  refine lv_iinc (v := 3) (lv' := [(3, .int 3), (0, .ref h0), (1, .int p0), (2, .int 8)]) hx hb dX19_word_25 hl (k := 0) rfl (by decide) (by decide) rfl (fun ls hl => ?_)
  refine lv_goto (tgt := 2) hx hb dX19_word_28 (by decide) ?_
  refine lv_iload_n hx hb dX19_word_2 rfl (lv_at hl 0 rfl) ?_
  refine lv_iconst (v := 4) hx hb dX19_word_3 (by decide) ?_
  refine lv_icmp_ge (tgt := 31) hx hb dX19_word_4 (by decide) (fun h9 => absurd h9 (by decide)) (fun _ => ?_)
  refine lv_aload_n hx hb dX19_word_7 rfl (lv_at hl 1 rfl) ?_
  refine va_get (D := (dC, dI)) (ci := 16) (v := .ref q_68) (C := RX19) (T := TX19) (N := 41) hx hb hts mem_X19_word8_0 hown hK hP 0 rfl rfl 34 (by decide) (ow (k := 0) rfl) (fun _ h9 => h9) rfl dX19_word_8 ?_
  refine lv_iload_n hx hb dX19_word_11 rfl (lv_at hl 3 rfl) ?_
  refine lv_iload_n hx hb dX19_word_12 rfl (lv_at hl 0 rfl) ?_
  refine lv_iadd hx hb dX19_word_13 ?_
  refine lv_topi (fun z ez => ?_)
  obtain rfl : z = 11 := by rw [ez]; decide
  refine lv_iload_n hx hb dX19_word_14 rfl (lv_at hl 2 rfl) ?_
  refine lv_bipush (v := 24) hx hb dX19_word_15 (by decide) ?_
  refine lv_bipush (v := 8) hx hb dX19_word_17 (by decide) ?_
  refine lv_iload_n hx hb dX19_word_19 rfl (lv_at hl 0 rfl) ?_
  refine lv_imul hx hb dX19_word_20 ?_
  refine lv_topi (fun z ez => ?_)
  obtain rfl : z = 24 := by rw [ez]; decide
  refine lv_isub hx hb dX19_word_21 ?_
  refine lv_topi (fun z ez => ?_)
  obtain rfl : z = 0 := by rw [ez]; decide
  refine lv_ishr hx hb dX19_word_22 ?_
  refine lv_i2b hx hb dX19_word_23 rfl ?_
  refine va_bast hx hb hK hP hD hS 1 0 rfl rfl (show vp_in 11 8192 by rw [vp_in_iff]; decide) dX19_word_24 (fun H locs hP hD hS => ?_)
  have hP : va_P (dC, dI) vwP [(h0, .inr (16, [.ref q_1, .ref q_12, .ref q_17, .ref q_22, .ref q_24, .ref q_26, .ref q_28, .ref q_29, .ref q_31, .ref q_33, .ref q_35, .int 0, .ref q_37, .ref q_39, .ref q_41, .ref q_43, .ref q_45, .ref q_47, .ref q_49, .ref q_51, .ref q_53, .ref q_55, .ref q_57, .int 0, .ref q_59, .ref q_61, .ref q_63, .int (-1), .int 0, .int 0, .int 0, .int 0, .ref q_65, .int 0, .ref q_68, .int 0, .int (-1), .int 0, .int 0, .ref q_70, .ref q_72])), (q_68, .inl (cA_69, 8192, .inl (upd f_2003 (11 : Int32).toNatClampNeg (vp_nar .byte ((p0 >>> (0 &&& 31)).toInt8.toInt32)))))] H := hP
  have hD : va_D A [(h0, .inr (16, [.ref q_1, .ref q_12, .ref q_17, .ref q_22, .ref q_24, .ref q_26, .ref q_28, .ref q_29, .ref q_31, .ref q_33, .ref q_35, .int 0, .ref q_37, .ref q_39, .ref q_41, .ref q_43, .ref q_45, .ref q_47, .ref q_49, .ref q_51, .ref q_53, .ref q_55, .ref q_57, .int 0, .ref q_59, .ref q_61, .ref q_63, .int (-1), .int 0, .int 0, .int 0, .int 0, .ref q_65, .int 0, .ref q_68, .int 0, .int (-1), .int 0, .int 0, .ref q_70, .ref q_72])), (q_68, .inl (cA_69, 8192, .inl (upd f_2003 (11 : Int32).toNatClampNeg (vp_nar .byte ((p0 >>> (0 &&& 31)).toInt8.toInt32)))))] := hD
  generalize (upd f_2003 (11 : Int32).toNatClampNeg (vp_nar .byte ((p0 >>> (0 &&& 31)).toInt8.toInt32))) = f_2004 at hP hD
  refine lv_iinc (v := 4) (lv' := [(3, .int 4), (0, .ref h0), (1, .int p0), (2, .int 8)]) hx hb dX19_word_25 hl (k := 0) rfl (by decide) (by decide) rfl (fun ls hl => ?_)
  refine lv_goto (tgt := 2) hx hb dX19_word_28 (by decide) ?_
  refine lv_iload_n hx hb dX19_word_2 rfl (lv_at hl 0 rfl) ?_
  refine lv_iconst (v := 4) hx hb dX19_word_3 (by decide) ?_
  refine lv_icmp_ge (tgt := 31) hx hb dX19_word_4 (by decide) (fun _ => ?_) (fun h9 => absurd h9 (by decide))
  refine W.widen (k := 0) (n := 0) (Nat.le_of_ble_eq_true rfl) (Nat.le_of_ble_eq_true rfl) ?_
  exact W.vret hx hb hr (fun t ht hW => ⟨⟨(), rfl, trivial, f_2004, by rw [ht]; exact hP, va_K.moved hW.alike hK, hD⟩, hS.F ht⟩) hS.2.2 dX19_word_31
def o_X19_word12 : List Cond := [.fieldLink RX19 551 "SsaForgeModel" "tape" "[B"]
def v_X19_word12 : List Cond := .code yX19_word cX19_word 4 none :: (o_X19_word12 ++ (wsX190 ++ []))
theorem mow_X19_word12 : ∀ w ∈ o_X19_word12, w ∈ v_X19_word12 := fun _ h => List.mem_cons_of_mem _ (List.mem_append_left _ h)
theorem mem_X19_word12_0 : ∀ w ∈ wsX190, w ∈ v_X19_word12 := fun _ h => List.mem_cons_of_mem _ (List.mem_append_right _ (List.mem_append_left _ h))
set_option maxRecDepth 20000 in
theorem gw_X19_word12 : v_X19_word12.all goodWord = true := by decide +kernel
set_option maxHeartbeats 4000000 in
set_option maxRecDepth 100000 in
theorem c_X19_word12 (l : Launch) (dC : Nat → ClassId) (dI : Nat → Nat → Nat) (h0 : Nat) (q_1 : Nat) (q_12 : Nat) (q_17 : Nat) (q_22 : Nat) (q_24 : Nat) (q_26 : Nat) (q_28 : Nat) (q_29 : Nat) (q_31 : Nat) (q_33 : Nat) (q_35 : Nat) (q_37 : Nat) (q_39 : Nat) (q_41 : Nat) (q_43 : Nat) (q_45 : Nat) (q_47 : Nat) (q_49 : Nat) (q_51 : Nat) (q_53 : Nat) (q_55 : Nat) (q_57 : Nat) (q_59 : Nat) (q_61 : Nat) (q_63 : Nat) (q_65 : Nat) (q_68 : Nat) (q_70 : Nat) (q_72 : Nat) (cA_69 : ClassId) (f_0 : Nat → Int32) (p0 : Int32) (sz : Nat) : Met l yX19_word v_X19_word12 ({ frames := 0, cells := 0, slots := 0, locals := 0 }) (va_Pc [.ref h0, .int p0, .int 12] (fun U => U.heap.size = sz ∧ va_P (dC, dI) vwP [(h0, .inr (16, [.ref q_1, .ref q_12, .ref q_17, .ref q_22, .ref q_24, .ref q_26, .ref q_28, .ref q_29, .ref q_31, .ref q_33, .ref q_35, .int 0, .ref q_37, .ref q_39, .ref q_41, .ref q_43, .ref q_45, .ref q_47, .ref q_49, .ref q_51, .ref q_53, .ref q_55, .ref q_57, .int 0, .ref q_59, .ref q_61, .ref q_63, .int (-1), .int 0, .int 0, .int 0, .int 0, .ref q_65, .int 0, .ref q_68, .int 0, .int (-1), .int 0, .int 0, .ref q_70, .ref q_72])), (q_68, .inl (cA_69, 8192, .inl f_0))] U.heap ∧ va_K (dC, dI) vwP [(cA_69, .byte)] U ∧ va_D (fun _ => True) [(h0, .inr (16, [.ref q_1, .ref q_12, .ref q_17, .ref q_22, .ref q_24, .ref q_26, .ref q_28, .ref q_29, .ref q_31, .ref q_33, .ref q_35, .int 0, .ref q_37, .ref q_39, .ref q_41, .ref q_43, .ref q_45, .ref q_47, .ref q_49, .ref q_51, .ref q_53, .ref q_55, .ref q_57, .int 0, .ref q_59, .ref q_61, .ref q_63, .int (-1), .int 0, .int 0, .int 0, .int 0, .ref q_65, .int 0, .ref q_68, .int 0, .int (-1), .int 0, .int 0, .ref q_70, .ref q_72])), (q_68, .inl (cA_69, 8192, .inl f_0))])) (va_Qv (fun _ : Unit => True) (fun (_ : Unit) (t : State) => ∃ (g0_9 : Nat → Int32), va_P (dC, dI) vwP [(h0, .inr (16, [.ref q_1, .ref q_12, .ref q_17, .ref q_22, .ref q_24, .ref q_26, .ref q_28, .ref q_29, .ref q_31, .ref q_33, .ref q_35, .int 0, .ref q_37, .ref q_39, .ref q_41, .ref q_43, .ref q_45, .ref q_47, .ref q_49, .ref q_51, .ref q_53, .ref q_55, .ref q_57, .int 0, .ref q_59, .ref q_61, .ref q_63, .int (-1), .int 0, .int 0, .int 0, .int 0, .ref q_65, .int 0, .ref q_68, .int 0, .int (-1), .int 0, .int 0, .ref q_70, .ref q_72])), (q_68, .inl (cA_69, 8192, .inl g0_9))] t.heap ∧ va_K (dC, dI) vwP [(cA_69, .byte)] t ∧ va_D (va_A [(h0, .inr (16, [.ref q_1, .ref q_12, .ref q_17, .ref q_22, .ref q_24, .ref q_26, .ref q_28, .ref q_29, .ref q_31, .ref q_33, .ref q_35, .int 0, .ref q_37, .ref q_39, .ref q_41, .ref q_43, .ref q_45, .ref q_47, .ref q_49, .ref q_51, .ref q_53, .ref q_55, .ref q_57, .int 0, .ref q_59, .ref q_61, .ref q_63, .int (-1), .int 0, .int 0, .int 0, .int 0, .ref q_65, .int 0, .ref q_68, .int 0, .int (-1), .int 0, .int 0, .ref q_70, .ref q_72])), (q_68, .inl (cA_69, 8192, .inl f_0))] sz) [(h0, .inr (16, [.ref q_1, .ref q_12, .ref q_17, .ref q_22, .ref q_24, .ref q_26, .ref q_28, .ref q_29, .ref q_31, .ref q_33, .ref q_35, .int 0, .ref q_37, .ref q_39, .ref q_41, .ref q_43, .ref q_45, .ref q_47, .ref q_49, .ref q_51, .ref q_53, .ref q_55, .ref q_57, .int 0, .ref q_59, .ref q_61, .ref q_63, .int (-1), .int 0, .int 0, .int 0, .int 0, .ref q_65, .int 0, .ref q_68, .int 0, .int (-1), .int 0, .int 0, .ref q_70, .ref q_72])), (q_68, .inl (cA_69, 8192, .inl g0_9))]) (va_A [(h0, .inr (16, [.ref q_1, .ref q_12, .ref q_17, .ref q_22, .ref q_24, .ref q_26, .ref q_28, .ref q_29, .ref q_31, .ref q_33, .ref q_35, .int 0, .ref q_37, .ref q_39, .ref q_41, .ref q_43, .ref q_45, .ref q_47, .ref q_49, .ref q_51, .ref q_53, .ref q_55, .ref q_57, .int 0, .ref q_59, .ref q_61, .ref q_63, .int (-1), .int 0, .int 0, .int 0, .int 0, .ref q_65, .int 0, .ref q_68, .int 0, .int (-1), .int 0, .int 0, .ref q_70, .ref q_72])), (q_68, .inl (cA_69, 8192, .inl f_0))] sz)) 0 0 (va_A [(h0, .inr (16, [.ref q_1, .ref q_12, .ref q_17, .ref q_22, .ref q_24, .ref q_26, .ref q_28, .ref q_29, .ref q_31, .ref q_33, .ref q_35, .int 0, .ref q_37, .ref q_39, .ref q_41, .ref q_43, .ref q_45, .ref q_47, .ref q_49, .ref q_51, .ref q_53, .ref q_55, .ref q_57, .int 0, .ref q_59, .ref q_61, .ref q_63, .int (-1), .int 0, .int 0, .int 0, .int 0, .ref q_65, .int 0, .ref q_68, .int 0, .int (-1), .int 0, .int 0, .ref q_70, .ref q_72])), (q_68, .inl (cA_69, 8192, .inl f_0))] sz) := by
  refine Met.ofW (cc := cX19_word) (maxL := 4) (ret := none) (by decide) rfl ?_
  intro p e s m args below meth c s₁ B hml hv
  obtain ⟨rfl, hsz, hP, hK, hD0⟩ := hv
  have hx := B.exec
  have hb := B.bytes
  have hr := B.returns
  have hts := atoms_spec (ws := v_X19_word12) B.pre
  have hown : s.vm.findClass RX19 = some m.cls := findClass_of_methodNamed B.named
  have hlocks := B.notSynchronized
  have ow : ∀ {k : Nat} {w : Cond}, o_X19_word12[k]? = some w → w.before ([.ref h0, .int p0, .int 12] : List Value).toArray s = true := fun h => hts _ (mow_X19_word12 _ (List.mem_of_getElem? h))
  subst hsz
  have hD := hD0.self (sz := s.heap.size)
  generalize hAe : va_A [(h0, .inr (16, [.ref q_1, .ref q_12, .ref q_17, .ref q_22, .ref q_24, .ref q_26, .ref q_28, .ref q_29, .ref q_31, .ref q_33, .ref q_35, .int 0, .ref q_37, .ref q_39, .ref q_41, .ref q_43, .ref q_45, .ref q_47, .ref q_49, .ref q_51, .ref q_53, .ref q_55, .ref q_57, .int 0, .ref q_59, .ref q_61, .ref q_63, .int (-1), .int 0, .int 0, .int 0, .int 0, .ref q_65, .int 0, .ref q_68, .int 0, .int (-1), .int 0, .int 0, .ref q_70, .ref q_72])), (q_68, .inl (cA_69, 8192, .inl f_0))] s.heap.size = A at hD ⊢
  have hA : ∀ q : Nat, s.heap.size ≤ q → A q := fun q h => by rw [← hAe]; exact Or.inr h
  have hS : va_S A s.heap s.heap [] := va_S.rf
  have hP : va_P (dC, dI) vwP [(h0, .inr (16, [.ref q_1, .ref q_12, .ref q_17, .ref q_22, .ref q_24, .ref q_26, .ref q_28, .ref q_29, .ref q_31, .ref q_33, .ref q_35, .int 0, .ref q_37, .ref q_39, .ref q_41, .ref q_43, .ref q_45, .ref q_47, .ref q_49, .ref q_51, .ref q_53, .ref q_55, .ref q_57, .int 0, .ref q_59, .ref q_61, .ref q_63, .int (-1), .int 0, .int 0, .int 0, .int 0, .ref q_65, .int 0, .ref q_68, .int 0, .int (-1), .int 0, .int 0, .ref q_70, .ref q_72])), (q_68, .inl (cA_69, 8192, .inl f_0))] s.heap := hP
  have hl := lv_entry ([.ref h0, .int p0, .int 12]) (n := 4) (Nat.le_of_ble_eq_true rfl)
  rw [lg_entry_eq]
  generalize (lg_sl ([.ref h0, .int p0, .int 12]) ++ List.replicate (4 - (lg_sl ([.ref h0, .int p0, .int 12])).length) Slot.unset).toArray = ls at hl ⊢
  have hl : lv_has ls 4 [(0, .ref h0), (1, .int p0), (2, .int 12)] := hl
  obtain ⟨H, hH⟩ : ∃ H, H = s.heap := ⟨_, rfl⟩
  rw [← hH] at hP
  have hS : va_S A s.heap H [] := by rw [hH]; exact hS
  rw [← hH]
  refine lv_iconst (v := 0) hx hb dX19_word_0 (by decide) ?_
  refine lv_istore_n (lv' := [(3, .int 0), (0, .ref h0), (1, .int p0), (2, .int 12)]) hx hb dX19_word_1 rfl hl (by decide) rfl (fun ls hl => ?_)
  refine lv_iload_n hx hb dX19_word_2 rfl (lv_at hl 0 rfl) ?_
  refine lv_iconst (v := 4) hx hb dX19_word_3 (by decide) ?_
  refine lv_icmp_ge (tgt := 31) hx hb dX19_word_4 (by decide) (fun h9 => absurd h9 (by decide)) (fun _ => ?_)
  refine lv_aload_n hx hb dX19_word_7 rfl (lv_at hl 1 rfl) ?_
  refine va_get (D := (dC, dI)) (ci := 16) (v := .ref q_68) (C := RX19) (T := TX19) (N := 41) hx hb hts mem_X19_word12_0 hown hK hP 0 rfl rfl 34 (by decide) (ow (k := 0) rfl) (fun _ h9 => h9) rfl dX19_word_8 ?_
  refine lv_iload_n hx hb dX19_word_11 rfl (lv_at hl 3 rfl) ?_
  refine lv_iload_n hx hb dX19_word_12 rfl (lv_at hl 0 rfl) ?_
  refine lv_iadd hx hb dX19_word_13 ?_
  refine lv_topi (fun z ez => ?_)
  obtain rfl : z = 12 := by rw [ez]; decide
  refine lv_iload_n hx hb dX19_word_14 rfl (lv_at hl 2 rfl) ?_
  refine lv_bipush (v := 24) hx hb dX19_word_15 (by decide) ?_
  refine lv_bipush (v := 8) hx hb dX19_word_17 (by decide) ?_
  refine lv_iload_n hx hb dX19_word_19 rfl (lv_at hl 0 rfl) ?_
  refine lv_imul hx hb dX19_word_20 ?_
  refine lv_topi (fun z ez => ?_)
  obtain rfl : z = 0 := by rw [ez]; decide
  refine lv_isub hx hb dX19_word_21 ?_
  refine lv_topi (fun z ez => ?_)
  obtain rfl : z = 24 := by rw [ez]; decide
  refine lv_ishr hx hb dX19_word_22 ?_
  refine lv_i2b hx hb dX19_word_23 rfl ?_
  refine va_bast hx hb hK hP hD hS 1 0 rfl rfl (show vp_in 12 8192 by rw [vp_in_iff]; decide) dX19_word_24 (fun H locs hP hD hS => ?_)
  have hP : va_P (dC, dI) vwP [(h0, .inr (16, [.ref q_1, .ref q_12, .ref q_17, .ref q_22, .ref q_24, .ref q_26, .ref q_28, .ref q_29, .ref q_31, .ref q_33, .ref q_35, .int 0, .ref q_37, .ref q_39, .ref q_41, .ref q_43, .ref q_45, .ref q_47, .ref q_49, .ref q_51, .ref q_53, .ref q_55, .ref q_57, .int 0, .ref q_59, .ref q_61, .ref q_63, .int (-1), .int 0, .int 0, .int 0, .int 0, .ref q_65, .int 0, .ref q_68, .int 0, .int (-1), .int 0, .int 0, .ref q_70, .ref q_72])), (q_68, .inl (cA_69, 8192, .inl (upd f_0 (12 : Int32).toNatClampNeg (vp_nar .byte ((p0 >>> (24 &&& 31)).toInt8.toInt32)))))] H := hP
  have hD : va_D A [(h0, .inr (16, [.ref q_1, .ref q_12, .ref q_17, .ref q_22, .ref q_24, .ref q_26, .ref q_28, .ref q_29, .ref q_31, .ref q_33, .ref q_35, .int 0, .ref q_37, .ref q_39, .ref q_41, .ref q_43, .ref q_45, .ref q_47, .ref q_49, .ref q_51, .ref q_53, .ref q_55, .ref q_57, .int 0, .ref q_59, .ref q_61, .ref q_63, .int (-1), .int 0, .int 0, .int 0, .int 0, .ref q_65, .int 0, .ref q_68, .int 0, .int (-1), .int 0, .int 0, .ref q_70, .ref q_72])), (q_68, .inl (cA_69, 8192, .inl (upd f_0 (12 : Int32).toNatClampNeg (vp_nar .byte ((p0 >>> (24 &&& 31)).toInt8.toInt32)))))] := hD
  generalize (upd f_0 (12 : Int32).toNatClampNeg (vp_nar .byte ((p0 >>> (24 &&& 31)).toInt8.toInt32))) = f_2001 at hP hD
  refine lv_iinc (v := 1) (lv' := [(3, .int 1), (0, .ref h0), (1, .int p0), (2, .int 12)]) hx hb dX19_word_25 hl (k := 0) rfl (by decide) (by decide) rfl (fun ls hl => ?_)
  refine lv_goto (tgt := 2) hx hb dX19_word_28 (by decide) ?_
  refine lv_iload_n hx hb dX19_word_2 rfl (lv_at hl 0 rfl) ?_
  refine lv_iconst (v := 4) hx hb dX19_word_3 (by decide) ?_
  refine lv_icmp_ge (tgt := 31) hx hb dX19_word_4 (by decide) (fun h9 => absurd h9 (by decide)) (fun _ => ?_)
  refine lv_aload_n hx hb dX19_word_7 rfl (lv_at hl 1 rfl) ?_
  refine va_get (D := (dC, dI)) (ci := 16) (v := .ref q_68) (C := RX19) (T := TX19) (N := 41) hx hb hts mem_X19_word12_0 hown hK hP 0 rfl rfl 34 (by decide) (ow (k := 0) rfl) (fun _ h9 => h9) rfl dX19_word_8 ?_
  refine lv_iload_n hx hb dX19_word_11 rfl (lv_at hl 3 rfl) ?_
  refine lv_iload_n hx hb dX19_word_12 rfl (lv_at hl 0 rfl) ?_
  refine lv_iadd hx hb dX19_word_13 ?_
  refine lv_topi (fun z ez => ?_)
  obtain rfl : z = 13 := by rw [ez]; decide
  refine lv_iload_n hx hb dX19_word_14 rfl (lv_at hl 2 rfl) ?_
  refine lv_bipush (v := 24) hx hb dX19_word_15 (by decide) ?_
  refine lv_bipush (v := 8) hx hb dX19_word_17 (by decide) ?_
  refine lv_iload_n hx hb dX19_word_19 rfl (lv_at hl 0 rfl) ?_
  refine lv_imul hx hb dX19_word_20 ?_
  refine lv_topi (fun z ez => ?_)
  obtain rfl : z = 8 := by rw [ez]; decide
  refine lv_isub hx hb dX19_word_21 ?_
  refine lv_topi (fun z ez => ?_)
  obtain rfl : z = 16 := by rw [ez]; decide
  refine lv_ishr hx hb dX19_word_22 ?_
  refine lv_i2b hx hb dX19_word_23 rfl ?_
  refine va_bast hx hb hK hP hD hS 1 0 rfl rfl (show vp_in 13 8192 by rw [vp_in_iff]; decide) dX19_word_24 (fun H locs hP hD hS => ?_)
  have hP : va_P (dC, dI) vwP [(h0, .inr (16, [.ref q_1, .ref q_12, .ref q_17, .ref q_22, .ref q_24, .ref q_26, .ref q_28, .ref q_29, .ref q_31, .ref q_33, .ref q_35, .int 0, .ref q_37, .ref q_39, .ref q_41, .ref q_43, .ref q_45, .ref q_47, .ref q_49, .ref q_51, .ref q_53, .ref q_55, .ref q_57, .int 0, .ref q_59, .ref q_61, .ref q_63, .int (-1), .int 0, .int 0, .int 0, .int 0, .ref q_65, .int 0, .ref q_68, .int 0, .int (-1), .int 0, .int 0, .ref q_70, .ref q_72])), (q_68, .inl (cA_69, 8192, .inl (upd f_2001 (13 : Int32).toNatClampNeg (vp_nar .byte ((p0 >>> (16 &&& 31)).toInt8.toInt32)))))] H := hP
  have hD : va_D A [(h0, .inr (16, [.ref q_1, .ref q_12, .ref q_17, .ref q_22, .ref q_24, .ref q_26, .ref q_28, .ref q_29, .ref q_31, .ref q_33, .ref q_35, .int 0, .ref q_37, .ref q_39, .ref q_41, .ref q_43, .ref q_45, .ref q_47, .ref q_49, .ref q_51, .ref q_53, .ref q_55, .ref q_57, .int 0, .ref q_59, .ref q_61, .ref q_63, .int (-1), .int 0, .int 0, .int 0, .int 0, .ref q_65, .int 0, .ref q_68, .int 0, .int (-1), .int 0, .int 0, .ref q_70, .ref q_72])), (q_68, .inl (cA_69, 8192, .inl (upd f_2001 (13 : Int32).toNatClampNeg (vp_nar .byte ((p0 >>> (16 &&& 31)).toInt8.toInt32)))))] := hD
  generalize (upd f_2001 (13 : Int32).toNatClampNeg (vp_nar .byte ((p0 >>> (16 &&& 31)).toInt8.toInt32))) = f_2002 at hP hD
  refine lv_iinc (v := 2) (lv' := [(3, .int 2), (0, .ref h0), (1, .int p0), (2, .int 12)]) hx hb dX19_word_25 hl (k := 0) rfl (by decide) (by decide) rfl (fun ls hl => ?_)
  refine lv_goto (tgt := 2) hx hb dX19_word_28 (by decide) ?_
  refine lv_iload_n hx hb dX19_word_2 rfl (lv_at hl 0 rfl) ?_
  refine lv_iconst (v := 4) hx hb dX19_word_3 (by decide) ?_
  refine lv_icmp_ge (tgt := 31) hx hb dX19_word_4 (by decide) (fun h9 => absurd h9 (by decide)) (fun _ => ?_)
  refine lv_aload_n hx hb dX19_word_7 rfl (lv_at hl 1 rfl) ?_
  refine va_get (D := (dC, dI)) (ci := 16) (v := .ref q_68) (C := RX19) (T := TX19) (N := 41) hx hb hts mem_X19_word12_0 hown hK hP 0 rfl rfl 34 (by decide) (ow (k := 0) rfl) (fun _ h9 => h9) rfl dX19_word_8 ?_
  refine lv_iload_n hx hb dX19_word_11 rfl (lv_at hl 3 rfl) ?_
  refine lv_iload_n hx hb dX19_word_12 rfl (lv_at hl 0 rfl) ?_
  refine lv_iadd hx hb dX19_word_13 ?_
  refine lv_topi (fun z ez => ?_)
  obtain rfl : z = 14 := by rw [ez]; decide
  refine lv_iload_n hx hb dX19_word_14 rfl (lv_at hl 2 rfl) ?_
  refine lv_bipush (v := 24) hx hb dX19_word_15 (by decide) ?_
  refine lv_bipush (v := 8) hx hb dX19_word_17 (by decide) ?_
  refine lv_iload_n hx hb dX19_word_19 rfl (lv_at hl 0 rfl) ?_
  refine lv_imul hx hb dX19_word_20 ?_
  refine lv_topi (fun z ez => ?_)
  obtain rfl : z = 16 := by rw [ez]; decide
  refine lv_isub hx hb dX19_word_21 ?_
  refine lv_topi (fun z ez => ?_)
  obtain rfl : z = 8 := by rw [ez]; decide
  refine lv_ishr hx hb dX19_word_22 ?_
  refine lv_i2b hx hb dX19_word_23 rfl ?_
  refine va_bast hx hb hK hP hD hS 1 0 rfl rfl (show vp_in 14 8192 by rw [vp_in_iff]; decide) dX19_word_24 (fun H locs hP hD hS => ?_)
  have hP : va_P (dC, dI) vwP [(h0, .inr (16, [.ref q_1, .ref q_12, .ref q_17, .ref q_22, .ref q_24, .ref q_26, .ref q_28, .ref q_29, .ref q_31, .ref q_33, .ref q_35, .int 0, .ref q_37, .ref q_39, .ref q_41, .ref q_43, .ref q_45, .ref q_47, .ref q_49, .ref q_51, .ref q_53, .ref q_55, .ref q_57, .int 0, .ref q_59, .ref q_61, .ref q_63, .int (-1), .int 0, .int 0, .int 0, .int 0, .ref q_65, .int 0, .ref q_68, .int 0, .int (-1), .int 0, .int 0, .ref q_70, .ref q_72])), (q_68, .inl (cA_69, 8192, .inl (upd f_2002 (14 : Int32).toNatClampNeg (vp_nar .byte ((p0 >>> (8 &&& 31)).toInt8.toInt32)))))] H := hP
  have hD : va_D A [(h0, .inr (16, [.ref q_1, .ref q_12, .ref q_17, .ref q_22, .ref q_24, .ref q_26, .ref q_28, .ref q_29, .ref q_31, .ref q_33, .ref q_35, .int 0, .ref q_37, .ref q_39, .ref q_41, .ref q_43, .ref q_45, .ref q_47, .ref q_49, .ref q_51, .ref q_53, .ref q_55, .ref q_57, .int 0, .ref q_59, .ref q_61, .ref q_63, .int (-1), .int 0, .int 0, .int 0, .int 0, .ref q_65, .int 0, .ref q_68, .int 0, .int (-1), .int 0, .int 0, .ref q_70, .ref q_72])), (q_68, .inl (cA_69, 8192, .inl (upd f_2002 (14 : Int32).toNatClampNeg (vp_nar .byte ((p0 >>> (8 &&& 31)).toInt8.toInt32)))))] := hD
  generalize (upd f_2002 (14 : Int32).toNatClampNeg (vp_nar .byte ((p0 >>> (8 &&& 31)).toInt8.toInt32))) = f_2003 at hP hD
  refine lv_iinc (v := 3) (lv' := [(3, .int 3), (0, .ref h0), (1, .int p0), (2, .int 12)]) hx hb dX19_word_25 hl (k := 0) rfl (by decide) (by decide) rfl (fun ls hl => ?_)
  refine lv_goto (tgt := 2) hx hb dX19_word_28 (by decide) ?_
  refine lv_iload_n hx hb dX19_word_2 rfl (lv_at hl 0 rfl) ?_
  refine lv_iconst (v := 4) hx hb dX19_word_3 (by decide) ?_
  refine lv_icmp_ge (tgt := 31) hx hb dX19_word_4 (by decide) (fun h9 => absurd h9 (by decide)) (fun _ => ?_)
  refine lv_aload_n hx hb dX19_word_7 rfl (lv_at hl 1 rfl) ?_
  refine va_get (D := (dC, dI)) (ci := 16) (v := .ref q_68) (C := RX19) (T := TX19) (N := 41) hx hb hts mem_X19_word12_0 hown hK hP 0 rfl rfl 34 (by decide) (ow (k := 0) rfl) (fun _ h9 => h9) rfl dX19_word_8 ?_
  refine lv_iload_n hx hb dX19_word_11 rfl (lv_at hl 3 rfl) ?_
  refine lv_iload_n hx hb dX19_word_12 rfl (lv_at hl 0 rfl) ?_
  refine lv_iadd hx hb dX19_word_13 ?_
  refine lv_topi (fun z ez => ?_)
  obtain rfl : z = 15 := by rw [ez]; decide
  refine lv_iload_n hx hb dX19_word_14 rfl (lv_at hl 2 rfl) ?_
  refine lv_bipush (v := 24) hx hb dX19_word_15 (by decide) ?_
  refine lv_bipush (v := 8) hx hb dX19_word_17 (by decide) ?_
  refine lv_iload_n hx hb dX19_word_19 rfl (lv_at hl 0 rfl) ?_
  refine lv_imul hx hb dX19_word_20 ?_
  refine lv_topi (fun z ez => ?_)
  obtain rfl : z = 24 := by rw [ez]; decide
  refine lv_isub hx hb dX19_word_21 ?_
  refine lv_topi (fun z ez => ?_)
  obtain rfl : z = 0 := by rw [ez]; decide
  refine lv_ishr hx hb dX19_word_22 ?_
  refine lv_i2b hx hb dX19_word_23 rfl ?_
  refine va_bast hx hb hK hP hD hS 1 0 rfl rfl (show vp_in 15 8192 by rw [vp_in_iff]; decide) dX19_word_24 (fun H locs hP hD hS => ?_)
  have hP : va_P (dC, dI) vwP [(h0, .inr (16, [.ref q_1, .ref q_12, .ref q_17, .ref q_22, .ref q_24, .ref q_26, .ref q_28, .ref q_29, .ref q_31, .ref q_33, .ref q_35, .int 0, .ref q_37, .ref q_39, .ref q_41, .ref q_43, .ref q_45, .ref q_47, .ref q_49, .ref q_51, .ref q_53, .ref q_55, .ref q_57, .int 0, .ref q_59, .ref q_61, .ref q_63, .int (-1), .int 0, .int 0, .int 0, .int 0, .ref q_65, .int 0, .ref q_68, .int 0, .int (-1), .int 0, .int 0, .ref q_70, .ref q_72])), (q_68, .inl (cA_69, 8192, .inl (upd f_2003 (15 : Int32).toNatClampNeg (vp_nar .byte ((p0 >>> (0 &&& 31)).toInt8.toInt32)))))] H := hP
  have hD : va_D A [(h0, .inr (16, [.ref q_1, .ref q_12, .ref q_17, .ref q_22, .ref q_24, .ref q_26, .ref q_28, .ref q_29, .ref q_31, .ref q_33, .ref q_35, .int 0, .ref q_37, .ref q_39, .ref q_41, .ref q_43, .ref q_45, .ref q_47, .ref q_49, .ref q_51, .ref q_53, .ref q_55, .ref q_57, .int 0, .ref q_59, .ref q_61, .ref q_63, .int (-1), .int 0, .int 0, .int 0, .int 0, .ref q_65, .int 0, .ref q_68, .int 0, .int (-1), .int 0, .int 0, .ref q_70, .ref q_72])), (q_68, .inl (cA_69, 8192, .inl (upd f_2003 (15 : Int32).toNatClampNeg (vp_nar .byte ((p0 >>> (0 &&& 31)).toInt8.toInt32)))))] := hD
  generalize (upd f_2003 (15 : Int32).toNatClampNeg (vp_nar .byte ((p0 >>> (0 &&& 31)).toInt8.toInt32))) = f_2004 at hP hD
  refine lv_iinc (v := 4) (lv' := [(3, .int 4), (0, .ref h0), (1, .int p0), (2, .int 12)]) hx hb dX19_word_25 hl (k := 0) rfl (by decide) (by decide) rfl (fun ls hl => ?_)
  refine lv_goto (tgt := 2) hx hb dX19_word_28 (by decide) ?_
  refine lv_iload_n hx hb dX19_word_2 rfl (lv_at hl 0 rfl) ?_
  refine lv_iconst (v := 4) hx hb dX19_word_3 (by decide) ?_
  refine lv_icmp_ge (tgt := 31) hx hb dX19_word_4 (by decide) (fun _ => ?_) (fun h9 => absurd h9 (by decide))
  refine W.widen (k := 0) (n := 0) (Nat.le_of_ble_eq_true rfl) (Nat.le_of_ble_eq_true rfl) ?_
  exact W.vret hx hb hr (fun t ht hW => ⟨⟨(), rfl, trivial, f_2004, by rw [ht]; exact hP, va_K.moved hW.alike hK, hD⟩, hS.F ht⟩) hS.2.2 dX19_word_31
def o_X19_word16 : List Cond := [.fieldLink RX19 551 "SsaForgeModel" "tape" "[B"]
def v_X19_word16 : List Cond := .code yX19_word cX19_word 4 none :: (o_X19_word16 ++ (wsX190 ++ []))
theorem mow_X19_word16 : ∀ w ∈ o_X19_word16, w ∈ v_X19_word16 := fun _ h => List.mem_cons_of_mem _ (List.mem_append_left _ h)
theorem mem_X19_word16_0 : ∀ w ∈ wsX190, w ∈ v_X19_word16 := fun _ h => List.mem_cons_of_mem _ (List.mem_append_right _ (List.mem_append_left _ h))
set_option maxRecDepth 20000 in
theorem gw_X19_word16 : v_X19_word16.all goodWord = true := by decide +kernel
set_option maxHeartbeats 4000000 in
set_option maxRecDepth 100000 in
theorem c_X19_word16 (l : Launch) (dC : Nat → ClassId) (dI : Nat → Nat → Nat) (h0 : Nat) (q_1 : Nat) (q_12 : Nat) (q_17 : Nat) (q_22 : Nat) (q_24 : Nat) (q_26 : Nat) (q_28 : Nat) (q_29 : Nat) (q_31 : Nat) (q_33 : Nat) (q_35 : Nat) (q_37 : Nat) (q_39 : Nat) (q_41 : Nat) (q_43 : Nat) (q_45 : Nat) (q_47 : Nat) (q_49 : Nat) (q_51 : Nat) (q_53 : Nat) (q_55 : Nat) (q_57 : Nat) (q_59 : Nat) (q_61 : Nat) (q_63 : Nat) (q_65 : Nat) (q_68 : Nat) (q_70 : Nat) (q_72 : Nat) (cA_69 : ClassId) (f_0 : Nat → Int32) (p0 : Int32) (sz : Nat) : Met l yX19_word v_X19_word16 ({ frames := 0, cells := 0, slots := 0, locals := 0 }) (va_Pc [.ref h0, .int p0, .int 16] (fun U => U.heap.size = sz ∧ va_P (dC, dI) vwP [(h0, .inr (16, [.ref q_1, .ref q_12, .ref q_17, .ref q_22, .ref q_24, .ref q_26, .ref q_28, .ref q_29, .ref q_31, .ref q_33, .ref q_35, .int 0, .ref q_37, .ref q_39, .ref q_41, .ref q_43, .ref q_45, .ref q_47, .ref q_49, .ref q_51, .ref q_53, .ref q_55, .ref q_57, .int 0, .ref q_59, .ref q_61, .ref q_63, .int (-1), .int 0, .int 0, .int 0, .int 0, .ref q_65, .int 0, .ref q_68, .int 0, .int (-1), .int 0, .int 0, .ref q_70, .ref q_72])), (q_68, .inl (cA_69, 8192, .inl f_0))] U.heap ∧ va_K (dC, dI) vwP [(cA_69, .byte)] U ∧ va_D (fun _ => True) [(h0, .inr (16, [.ref q_1, .ref q_12, .ref q_17, .ref q_22, .ref q_24, .ref q_26, .ref q_28, .ref q_29, .ref q_31, .ref q_33, .ref q_35, .int 0, .ref q_37, .ref q_39, .ref q_41, .ref q_43, .ref q_45, .ref q_47, .ref q_49, .ref q_51, .ref q_53, .ref q_55, .ref q_57, .int 0, .ref q_59, .ref q_61, .ref q_63, .int (-1), .int 0, .int 0, .int 0, .int 0, .ref q_65, .int 0, .ref q_68, .int 0, .int (-1), .int 0, .int 0, .ref q_70, .ref q_72])), (q_68, .inl (cA_69, 8192, .inl f_0))])) (va_Qv (fun _ : Unit => True) (fun (_ : Unit) (t : State) => ∃ (g0_9 : Nat → Int32), va_P (dC, dI) vwP [(h0, .inr (16, [.ref q_1, .ref q_12, .ref q_17, .ref q_22, .ref q_24, .ref q_26, .ref q_28, .ref q_29, .ref q_31, .ref q_33, .ref q_35, .int 0, .ref q_37, .ref q_39, .ref q_41, .ref q_43, .ref q_45, .ref q_47, .ref q_49, .ref q_51, .ref q_53, .ref q_55, .ref q_57, .int 0, .ref q_59, .ref q_61, .ref q_63, .int (-1), .int 0, .int 0, .int 0, .int 0, .ref q_65, .int 0, .ref q_68, .int 0, .int (-1), .int 0, .int 0, .ref q_70, .ref q_72])), (q_68, .inl (cA_69, 8192, .inl g0_9))] t.heap ∧ va_K (dC, dI) vwP [(cA_69, .byte)] t ∧ va_D (va_A [(h0, .inr (16, [.ref q_1, .ref q_12, .ref q_17, .ref q_22, .ref q_24, .ref q_26, .ref q_28, .ref q_29, .ref q_31, .ref q_33, .ref q_35, .int 0, .ref q_37, .ref q_39, .ref q_41, .ref q_43, .ref q_45, .ref q_47, .ref q_49, .ref q_51, .ref q_53, .ref q_55, .ref q_57, .int 0, .ref q_59, .ref q_61, .ref q_63, .int (-1), .int 0, .int 0, .int 0, .int 0, .ref q_65, .int 0, .ref q_68, .int 0, .int (-1), .int 0, .int 0, .ref q_70, .ref q_72])), (q_68, .inl (cA_69, 8192, .inl f_0))] sz) [(h0, .inr (16, [.ref q_1, .ref q_12, .ref q_17, .ref q_22, .ref q_24, .ref q_26, .ref q_28, .ref q_29, .ref q_31, .ref q_33, .ref q_35, .int 0, .ref q_37, .ref q_39, .ref q_41, .ref q_43, .ref q_45, .ref q_47, .ref q_49, .ref q_51, .ref q_53, .ref q_55, .ref q_57, .int 0, .ref q_59, .ref q_61, .ref q_63, .int (-1), .int 0, .int 0, .int 0, .int 0, .ref q_65, .int 0, .ref q_68, .int 0, .int (-1), .int 0, .int 0, .ref q_70, .ref q_72])), (q_68, .inl (cA_69, 8192, .inl g0_9))]) (va_A [(h0, .inr (16, [.ref q_1, .ref q_12, .ref q_17, .ref q_22, .ref q_24, .ref q_26, .ref q_28, .ref q_29, .ref q_31, .ref q_33, .ref q_35, .int 0, .ref q_37, .ref q_39, .ref q_41, .ref q_43, .ref q_45, .ref q_47, .ref q_49, .ref q_51, .ref q_53, .ref q_55, .ref q_57, .int 0, .ref q_59, .ref q_61, .ref q_63, .int (-1), .int 0, .int 0, .int 0, .int 0, .ref q_65, .int 0, .ref q_68, .int 0, .int (-1), .int 0, .int 0, .ref q_70, .ref q_72])), (q_68, .inl (cA_69, 8192, .inl f_0))] sz)) 0 0 (va_A [(h0, .inr (16, [.ref q_1, .ref q_12, .ref q_17, .ref q_22, .ref q_24, .ref q_26, .ref q_28, .ref q_29, .ref q_31, .ref q_33, .ref q_35, .int 0, .ref q_37, .ref q_39, .ref q_41, .ref q_43, .ref q_45, .ref q_47, .ref q_49, .ref q_51, .ref q_53, .ref q_55, .ref q_57, .int 0, .ref q_59, .ref q_61, .ref q_63, .int (-1), .int 0, .int 0, .int 0, .int 0, .ref q_65, .int 0, .ref q_68, .int 0, .int (-1), .int 0, .int 0, .ref q_70, .ref q_72])), (q_68, .inl (cA_69, 8192, .inl f_0))] sz) := by
  refine Met.ofW (cc := cX19_word) (maxL := 4) (ret := none) (by decide) rfl ?_
  intro p e s m args below meth c s₁ B hml hv
  obtain ⟨rfl, hsz, hP, hK, hD0⟩ := hv
  have hx := B.exec
  have hb := B.bytes
  have hr := B.returns
  have hts := atoms_spec (ws := v_X19_word16) B.pre
  have hown : s.vm.findClass RX19 = some m.cls := findClass_of_methodNamed B.named
  have hlocks := B.notSynchronized
  have ow : ∀ {k : Nat} {w : Cond}, o_X19_word16[k]? = some w → w.before ([.ref h0, .int p0, .int 16] : List Value).toArray s = true := fun h => hts _ (mow_X19_word16 _ (List.mem_of_getElem? h))
  subst hsz
  have hD := hD0.self (sz := s.heap.size)
  generalize hAe : va_A [(h0, .inr (16, [.ref q_1, .ref q_12, .ref q_17, .ref q_22, .ref q_24, .ref q_26, .ref q_28, .ref q_29, .ref q_31, .ref q_33, .ref q_35, .int 0, .ref q_37, .ref q_39, .ref q_41, .ref q_43, .ref q_45, .ref q_47, .ref q_49, .ref q_51, .ref q_53, .ref q_55, .ref q_57, .int 0, .ref q_59, .ref q_61, .ref q_63, .int (-1), .int 0, .int 0, .int 0, .int 0, .ref q_65, .int 0, .ref q_68, .int 0, .int (-1), .int 0, .int 0, .ref q_70, .ref q_72])), (q_68, .inl (cA_69, 8192, .inl f_0))] s.heap.size = A at hD ⊢
  have hA : ∀ q : Nat, s.heap.size ≤ q → A q := fun q h => by rw [← hAe]; exact Or.inr h
  have hS : va_S A s.heap s.heap [] := va_S.rf
  have hP : va_P (dC, dI) vwP [(h0, .inr (16, [.ref q_1, .ref q_12, .ref q_17, .ref q_22, .ref q_24, .ref q_26, .ref q_28, .ref q_29, .ref q_31, .ref q_33, .ref q_35, .int 0, .ref q_37, .ref q_39, .ref q_41, .ref q_43, .ref q_45, .ref q_47, .ref q_49, .ref q_51, .ref q_53, .ref q_55, .ref q_57, .int 0, .ref q_59, .ref q_61, .ref q_63, .int (-1), .int 0, .int 0, .int 0, .int 0, .ref q_65, .int 0, .ref q_68, .int 0, .int (-1), .int 0, .int 0, .ref q_70, .ref q_72])), (q_68, .inl (cA_69, 8192, .inl f_0))] s.heap := hP
  have hl := lv_entry ([.ref h0, .int p0, .int 16]) (n := 4) (Nat.le_of_ble_eq_true rfl)
  rw [lg_entry_eq]
  generalize (lg_sl ([.ref h0, .int p0, .int 16]) ++ List.replicate (4 - (lg_sl ([.ref h0, .int p0, .int 16])).length) Slot.unset).toArray = ls at hl ⊢
  have hl : lv_has ls 4 [(0, .ref h0), (1, .int p0), (2, .int 16)] := hl
  obtain ⟨H, hH⟩ : ∃ H, H = s.heap := ⟨_, rfl⟩
  rw [← hH] at hP
  have hS : va_S A s.heap H [] := by rw [hH]; exact hS
  rw [← hH]
  refine lv_iconst (v := 0) hx hb dX19_word_0 (by decide) ?_
  refine lv_istore_n (lv' := [(3, .int 0), (0, .ref h0), (1, .int p0), (2, .int 16)]) hx hb dX19_word_1 rfl hl (by decide) rfl (fun ls hl => ?_)
  refine lv_iload_n hx hb dX19_word_2 rfl (lv_at hl 0 rfl) ?_
  refine lv_iconst (v := 4) hx hb dX19_word_3 (by decide) ?_
  refine lv_icmp_ge (tgt := 31) hx hb dX19_word_4 (by decide) (fun h9 => absurd h9 (by decide)) (fun _ => ?_)
  refine lv_aload_n hx hb dX19_word_7 rfl (lv_at hl 1 rfl) ?_
  refine va_get (D := (dC, dI)) (ci := 16) (v := .ref q_68) (C := RX19) (T := TX19) (N := 41) hx hb hts mem_X19_word16_0 hown hK hP 0 rfl rfl 34 (by decide) (ow (k := 0) rfl) (fun _ h9 => h9) rfl dX19_word_8 ?_
  refine lv_iload_n hx hb dX19_word_11 rfl (lv_at hl 3 rfl) ?_
  refine lv_iload_n hx hb dX19_word_12 rfl (lv_at hl 0 rfl) ?_
  refine lv_iadd hx hb dX19_word_13 ?_
  refine lv_topi (fun z ez => ?_)
  obtain rfl : z = 16 := by rw [ez]; decide
  refine lv_iload_n hx hb dX19_word_14 rfl (lv_at hl 2 rfl) ?_
  refine lv_bipush (v := 24) hx hb dX19_word_15 (by decide) ?_
  refine lv_bipush (v := 8) hx hb dX19_word_17 (by decide) ?_
  refine lv_iload_n hx hb dX19_word_19 rfl (lv_at hl 0 rfl) ?_
  refine lv_imul hx hb dX19_word_20 ?_
  refine lv_topi (fun z ez => ?_)
  obtain rfl : z = 0 := by rw [ez]; decide
  refine lv_isub hx hb dX19_word_21 ?_
  refine lv_topi (fun z ez => ?_)
  obtain rfl : z = 24 := by rw [ez]; decide
  refine lv_ishr hx hb dX19_word_22 ?_
  refine lv_i2b hx hb dX19_word_23 rfl ?_
  refine va_bast hx hb hK hP hD hS 1 0 rfl rfl (show vp_in 16 8192 by rw [vp_in_iff]; decide) dX19_word_24 (fun H locs hP hD hS => ?_)
  have hP : va_P (dC, dI) vwP [(h0, .inr (16, [.ref q_1, .ref q_12, .ref q_17, .ref q_22, .ref q_24, .ref q_26, .ref q_28, .ref q_29, .ref q_31, .ref q_33, .ref q_35, .int 0, .ref q_37, .ref q_39, .ref q_41, .ref q_43, .ref q_45, .ref q_47, .ref q_49, .ref q_51, .ref q_53, .ref q_55, .ref q_57, .int 0, .ref q_59, .ref q_61, .ref q_63, .int (-1), .int 0, .int 0, .int 0, .int 0, .ref q_65, .int 0, .ref q_68, .int 0, .int (-1), .int 0, .int 0, .ref q_70, .ref q_72])), (q_68, .inl (cA_69, 8192, .inl (upd f_0 (16 : Int32).toNatClampNeg (vp_nar .byte ((p0 >>> (24 &&& 31)).toInt8.toInt32)))))] H := hP
  have hD : va_D A [(h0, .inr (16, [.ref q_1, .ref q_12, .ref q_17, .ref q_22, .ref q_24, .ref q_26, .ref q_28, .ref q_29, .ref q_31, .ref q_33, .ref q_35, .int 0, .ref q_37, .ref q_39, .ref q_41, .ref q_43, .ref q_45, .ref q_47, .ref q_49, .ref q_51, .ref q_53, .ref q_55, .ref q_57, .int 0, .ref q_59, .ref q_61, .ref q_63, .int (-1), .int 0, .int 0, .int 0, .int 0, .ref q_65, .int 0, .ref q_68, .int 0, .int (-1), .int 0, .int 0, .ref q_70, .ref q_72])), (q_68, .inl (cA_69, 8192, .inl (upd f_0 (16 : Int32).toNatClampNeg (vp_nar .byte ((p0 >>> (24 &&& 31)).toInt8.toInt32)))))] := hD
  generalize (upd f_0 (16 : Int32).toNatClampNeg (vp_nar .byte ((p0 >>> (24 &&& 31)).toInt8.toInt32))) = f_2001 at hP hD
  refine lv_iinc (v := 1) (lv' := [(3, .int 1), (0, .ref h0), (1, .int p0), (2, .int 16)]) hx hb dX19_word_25 hl (k := 0) rfl (by decide) (by decide) rfl (fun ls hl => ?_)
  refine lv_goto (tgt := 2) hx hb dX19_word_28 (by decide) ?_
  refine lv_iload_n hx hb dX19_word_2 rfl (lv_at hl 0 rfl) ?_
  refine lv_iconst (v := 4) hx hb dX19_word_3 (by decide) ?_
  refine lv_icmp_ge (tgt := 31) hx hb dX19_word_4 (by decide) (fun h9 => absurd h9 (by decide)) (fun _ => ?_)
  refine lv_aload_n hx hb dX19_word_7 rfl (lv_at hl 1 rfl) ?_
  refine va_get (D := (dC, dI)) (ci := 16) (v := .ref q_68) (C := RX19) (T := TX19) (N := 41) hx hb hts mem_X19_word16_0 hown hK hP 0 rfl rfl 34 (by decide) (ow (k := 0) rfl) (fun _ h9 => h9) rfl dX19_word_8 ?_
  refine lv_iload_n hx hb dX19_word_11 rfl (lv_at hl 3 rfl) ?_
  refine lv_iload_n hx hb dX19_word_12 rfl (lv_at hl 0 rfl) ?_
  refine lv_iadd hx hb dX19_word_13 ?_
  refine lv_topi (fun z ez => ?_)
  obtain rfl : z = 17 := by rw [ez]; decide
  refine lv_iload_n hx hb dX19_word_14 rfl (lv_at hl 2 rfl) ?_
  refine lv_bipush (v := 24) hx hb dX19_word_15 (by decide) ?_
  refine lv_bipush (v := 8) hx hb dX19_word_17 (by decide) ?_
  refine lv_iload_n hx hb dX19_word_19 rfl (lv_at hl 0 rfl) ?_
  refine lv_imul hx hb dX19_word_20 ?_
  refine lv_topi (fun z ez => ?_)
  obtain rfl : z = 8 := by rw [ez]; decide
  refine lv_isub hx hb dX19_word_21 ?_
  refine lv_topi (fun z ez => ?_)
  obtain rfl : z = 16 := by rw [ez]; decide
  refine lv_ishr hx hb dX19_word_22 ?_
  refine lv_i2b hx hb dX19_word_23 rfl ?_
  refine va_bast hx hb hK hP hD hS 1 0 rfl rfl (show vp_in 17 8192 by rw [vp_in_iff]; decide) dX19_word_24 (fun H locs hP hD hS => ?_)
  have hP : va_P (dC, dI) vwP [(h0, .inr (16, [.ref q_1, .ref q_12, .ref q_17, .ref q_22, .ref q_24, .ref q_26, .ref q_28, .ref q_29, .ref q_31, .ref q_33, .ref q_35, .int 0, .ref q_37, .ref q_39, .ref q_41, .ref q_43, .ref q_45, .ref q_47, .ref q_49, .ref q_51, .ref q_53, .ref q_55, .ref q_57, .int 0, .ref q_59, .ref q_61, .ref q_63, .int (-1), .int 0, .int 0, .int 0, .int 0, .ref q_65, .int 0, .ref q_68, .int 0, .int (-1), .int 0, .int 0, .ref q_70, .ref q_72])), (q_68, .inl (cA_69, 8192, .inl (upd f_2001 (17 : Int32).toNatClampNeg (vp_nar .byte ((p0 >>> (16 &&& 31)).toInt8.toInt32)))))] H := hP
  have hD : va_D A [(h0, .inr (16, [.ref q_1, .ref q_12, .ref q_17, .ref q_22, .ref q_24, .ref q_26, .ref q_28, .ref q_29, .ref q_31, .ref q_33, .ref q_35, .int 0, .ref q_37, .ref q_39, .ref q_41, .ref q_43, .ref q_45, .ref q_47, .ref q_49, .ref q_51, .ref q_53, .ref q_55, .ref q_57, .int 0, .ref q_59, .ref q_61, .ref q_63, .int (-1), .int 0, .int 0, .int 0, .int 0, .ref q_65, .int 0, .ref q_68, .int 0, .int (-1), .int 0, .int 0, .ref q_70, .ref q_72])), (q_68, .inl (cA_69, 8192, .inl (upd f_2001 (17 : Int32).toNatClampNeg (vp_nar .byte ((p0 >>> (16 &&& 31)).toInt8.toInt32)))))] := hD
  generalize (upd f_2001 (17 : Int32).toNatClampNeg (vp_nar .byte ((p0 >>> (16 &&& 31)).toInt8.toInt32))) = f_2002 at hP hD
  refine lv_iinc (v := 2) (lv' := [(3, .int 2), (0, .ref h0), (1, .int p0), (2, .int 16)]) hx hb dX19_word_25 hl (k := 0) rfl (by decide) (by decide) rfl (fun ls hl => ?_)
  refine lv_goto (tgt := 2) hx hb dX19_word_28 (by decide) ?_
  refine lv_iload_n hx hb dX19_word_2 rfl (lv_at hl 0 rfl) ?_
  refine lv_iconst (v := 4) hx hb dX19_word_3 (by decide) ?_
  refine lv_icmp_ge (tgt := 31) hx hb dX19_word_4 (by decide) (fun h9 => absurd h9 (by decide)) (fun _ => ?_)
  refine lv_aload_n hx hb dX19_word_7 rfl (lv_at hl 1 rfl) ?_
  refine va_get (D := (dC, dI)) (ci := 16) (v := .ref q_68) (C := RX19) (T := TX19) (N := 41) hx hb hts mem_X19_word16_0 hown hK hP 0 rfl rfl 34 (by decide) (ow (k := 0) rfl) (fun _ h9 => h9) rfl dX19_word_8 ?_
  refine lv_iload_n hx hb dX19_word_11 rfl (lv_at hl 3 rfl) ?_
  refine lv_iload_n hx hb dX19_word_12 rfl (lv_at hl 0 rfl) ?_
  refine lv_iadd hx hb dX19_word_13 ?_
  refine lv_topi (fun z ez => ?_)
  obtain rfl : z = 18 := by rw [ez]; decide
  refine lv_iload_n hx hb dX19_word_14 rfl (lv_at hl 2 rfl) ?_
  refine lv_bipush (v := 24) hx hb dX19_word_15 (by decide) ?_
  refine lv_bipush (v := 8) hx hb dX19_word_17 (by decide) ?_
  refine lv_iload_n hx hb dX19_word_19 rfl (lv_at hl 0 rfl) ?_
  refine lv_imul hx hb dX19_word_20 ?_
  refine lv_topi (fun z ez => ?_)
  obtain rfl : z = 16 := by rw [ez]; decide
  refine lv_isub hx hb dX19_word_21 ?_
  refine lv_topi (fun z ez => ?_)
  obtain rfl : z = 8 := by rw [ez]; decide
  refine lv_ishr hx hb dX19_word_22 ?_
  refine lv_i2b hx hb dX19_word_23 rfl ?_
  refine va_bast hx hb hK hP hD hS 1 0 rfl rfl (show vp_in 18 8192 by rw [vp_in_iff]; decide) dX19_word_24 (fun H locs hP hD hS => ?_)
  have hP : va_P (dC, dI) vwP [(h0, .inr (16, [.ref q_1, .ref q_12, .ref q_17, .ref q_22, .ref q_24, .ref q_26, .ref q_28, .ref q_29, .ref q_31, .ref q_33, .ref q_35, .int 0, .ref q_37, .ref q_39, .ref q_41, .ref q_43, .ref q_45, .ref q_47, .ref q_49, .ref q_51, .ref q_53, .ref q_55, .ref q_57, .int 0, .ref q_59, .ref q_61, .ref q_63, .int (-1), .int 0, .int 0, .int 0, .int 0, .ref q_65, .int 0, .ref q_68, .int 0, .int (-1), .int 0, .int 0, .ref q_70, .ref q_72])), (q_68, .inl (cA_69, 8192, .inl (upd f_2002 (18 : Int32).toNatClampNeg (vp_nar .byte ((p0 >>> (8 &&& 31)).toInt8.toInt32)))))] H := hP
  have hD : va_D A [(h0, .inr (16, [.ref q_1, .ref q_12, .ref q_17, .ref q_22, .ref q_24, .ref q_26, .ref q_28, .ref q_29, .ref q_31, .ref q_33, .ref q_35, .int 0, .ref q_37, .ref q_39, .ref q_41, .ref q_43, .ref q_45, .ref q_47, .ref q_49, .ref q_51, .ref q_53, .ref q_55, .ref q_57, .int 0, .ref q_59, .ref q_61, .ref q_63, .int (-1), .int 0, .int 0, .int 0, .int 0, .ref q_65, .int 0, .ref q_68, .int 0, .int (-1), .int 0, .int 0, .ref q_70, .ref q_72])), (q_68, .inl (cA_69, 8192, .inl (upd f_2002 (18 : Int32).toNatClampNeg (vp_nar .byte ((p0 >>> (8 &&& 31)).toInt8.toInt32)))))] := hD
  generalize (upd f_2002 (18 : Int32).toNatClampNeg (vp_nar .byte ((p0 >>> (8 &&& 31)).toInt8.toInt32))) = f_2003 at hP hD
  refine lv_iinc (v := 3) (lv' := [(3, .int 3), (0, .ref h0), (1, .int p0), (2, .int 16)]) hx hb dX19_word_25 hl (k := 0) rfl (by decide) (by decide) rfl (fun ls hl => ?_)
  refine lv_goto (tgt := 2) hx hb dX19_word_28 (by decide) ?_
  refine lv_iload_n hx hb dX19_word_2 rfl (lv_at hl 0 rfl) ?_
  refine lv_iconst (v := 4) hx hb dX19_word_3 (by decide) ?_
  refine lv_icmp_ge (tgt := 31) hx hb dX19_word_4 (by decide) (fun h9 => absurd h9 (by decide)) (fun _ => ?_)
  refine lv_aload_n hx hb dX19_word_7 rfl (lv_at hl 1 rfl) ?_
  refine va_get (D := (dC, dI)) (ci := 16) (v := .ref q_68) (C := RX19) (T := TX19) (N := 41) hx hb hts mem_X19_word16_0 hown hK hP 0 rfl rfl 34 (by decide) (ow (k := 0) rfl) (fun _ h9 => h9) rfl dX19_word_8 ?_
  refine lv_iload_n hx hb dX19_word_11 rfl (lv_at hl 3 rfl) ?_
  refine lv_iload_n hx hb dX19_word_12 rfl (lv_at hl 0 rfl) ?_
  refine lv_iadd hx hb dX19_word_13 ?_
  refine lv_topi (fun z ez => ?_)
  obtain rfl : z = 19 := by rw [ez]; decide
  refine lv_iload_n hx hb dX19_word_14 rfl (lv_at hl 2 rfl) ?_
  refine lv_bipush (v := 24) hx hb dX19_word_15 (by decide) ?_
  refine lv_bipush (v := 8) hx hb dX19_word_17 (by decide) ?_
  refine lv_iload_n hx hb dX19_word_19 rfl (lv_at hl 0 rfl) ?_
  refine lv_imul hx hb dX19_word_20 ?_
  refine lv_topi (fun z ez => ?_)
  obtain rfl : z = 24 := by rw [ez]; decide
  refine lv_isub hx hb dX19_word_21 ?_
  refine lv_topi (fun z ez => ?_)
  obtain rfl : z = 0 := by rw [ez]; decide
  refine lv_ishr hx hb dX19_word_22 ?_
  refine lv_i2b hx hb dX19_word_23 rfl ?_
  refine va_bast hx hb hK hP hD hS 1 0 rfl rfl (show vp_in 19 8192 by rw [vp_in_iff]; decide) dX19_word_24 (fun H locs hP hD hS => ?_)
  have hP : va_P (dC, dI) vwP [(h0, .inr (16, [.ref q_1, .ref q_12, .ref q_17, .ref q_22, .ref q_24, .ref q_26, .ref q_28, .ref q_29, .ref q_31, .ref q_33, .ref q_35, .int 0, .ref q_37, .ref q_39, .ref q_41, .ref q_43, .ref q_45, .ref q_47, .ref q_49, .ref q_51, .ref q_53, .ref q_55, .ref q_57, .int 0, .ref q_59, .ref q_61, .ref q_63, .int (-1), .int 0, .int 0, .int 0, .int 0, .ref q_65, .int 0, .ref q_68, .int 0, .int (-1), .int 0, .int 0, .ref q_70, .ref q_72])), (q_68, .inl (cA_69, 8192, .inl (upd f_2003 (19 : Int32).toNatClampNeg (vp_nar .byte ((p0 >>> (0 &&& 31)).toInt8.toInt32)))))] H := hP
  have hD : va_D A [(h0, .inr (16, [.ref q_1, .ref q_12, .ref q_17, .ref q_22, .ref q_24, .ref q_26, .ref q_28, .ref q_29, .ref q_31, .ref q_33, .ref q_35, .int 0, .ref q_37, .ref q_39, .ref q_41, .ref q_43, .ref q_45, .ref q_47, .ref q_49, .ref q_51, .ref q_53, .ref q_55, .ref q_57, .int 0, .ref q_59, .ref q_61, .ref q_63, .int (-1), .int 0, .int 0, .int 0, .int 0, .ref q_65, .int 0, .ref q_68, .int 0, .int (-1), .int 0, .int 0, .ref q_70, .ref q_72])), (q_68, .inl (cA_69, 8192, .inl (upd f_2003 (19 : Int32).toNatClampNeg (vp_nar .byte ((p0 >>> (0 &&& 31)).toInt8.toInt32)))))] := hD
  generalize (upd f_2003 (19 : Int32).toNatClampNeg (vp_nar .byte ((p0 >>> (0 &&& 31)).toInt8.toInt32))) = f_2004 at hP hD
  refine lv_iinc (v := 4) (lv' := [(3, .int 4), (0, .ref h0), (1, .int p0), (2, .int 16)]) hx hb dX19_word_25 hl (k := 0) rfl (by decide) (by decide) rfl (fun ls hl => ?_)
  refine lv_goto (tgt := 2) hx hb dX19_word_28 (by decide) ?_
  refine lv_iload_n hx hb dX19_word_2 rfl (lv_at hl 0 rfl) ?_
  refine lv_iconst (v := 4) hx hb dX19_word_3 (by decide) ?_
  refine lv_icmp_ge (tgt := 31) hx hb dX19_word_4 (by decide) (fun _ => ?_) (fun h9 => absurd h9 (by decide))
  refine W.widen (k := 0) (n := 0) (Nat.le_of_ble_eq_true rfl) (Nat.le_of_ble_eq_true rfl) ?_
  exact W.vret hx hb hr (fun t ht hW => ⟨⟨(), rfl, trivial, f_2004, by rw [ht]; exact hP, va_K.moved hW.alike hK, hD⟩, hS.F ht⟩) hS.2.2 dX19_word_31
theorem dX19_feed_0 : decode cX19_feed 0 = .ok (.aload_n 0, 1) := by decide +kernel
theorem dX19_feed_1 : decode cX19_feed 1 = .ok (.iconst 0, 1) := by decide +kernel
theorem dX19_feed_2 : decode cX19_feed 2 = .ok (.putfield 560, 3) := by decide +kernel
theorem dX19_feed_5 : decode cX19_feed 5 = .ok (.aload_n 0, 1) := by decide +kernel
theorem dX19_feed_6 : decode cX19_feed 6 = .ok (.getfield 563, 3) := by decide +kernel
theorem dX19_feed_9 : decode cX19_feed 9 = .ok (.bipush 20, 2) := by decide +kernel
theorem dX19_feed_11 : decode cX19_feed 11 = .ok (.iadd, 1) := by decide +kernel
theorem dX19_feed_12 : decode cX19_feed 12 = .ok (.sipush 8192, 3) := by decide +kernel
theorem dX19_feed_15 : decode cX19_feed 15 = .ok (.if_icmp .le 9, 3) := by decide +kernel
theorem dX19_feed_24 : decode cX19_feed 24 = .ok (.aload_n 0, 1) := by decide +kernel
theorem dX19_feed_25 : decode cX19_feed 25 = .ok (.iload_n 1, 1) := by decide +kernel
theorem dX19_feed_26 : decode cX19_feed 26 = .ok (.aload_n 0, 1) := by decide +kernel
theorem dX19_feed_27 : decode cX19_feed 27 = .ok (.getfield 563, 3) := by decide +kernel
theorem dX19_feed_30 : decode cX19_feed 30 = .ok (.invokevirtual 568, 3) := by decide +kernel
theorem dX19_feed_33 : decode cX19_feed 33 = .ok (.aload_n 0, 1) := by decide +kernel
theorem dX19_feed_34 : decode cX19_feed 34 = .ok (.iload_n 2, 1) := by decide +kernel
theorem dX19_feed_35 : decode cX19_feed 35 = .ok (.aload_n 0, 1) := by decide +kernel
theorem dX19_feed_36 : decode cX19_feed 36 = .ok (.getfield 563, 3) := by decide +kernel
theorem dX19_feed_39 : decode cX19_feed 39 = .ok (.iconst 4, 1) := by decide +kernel
theorem dX19_feed_40 : decode cX19_feed 40 = .ok (.iadd, 1) := by decide +kernel
theorem dX19_feed_41 : decode cX19_feed 41 = .ok (.invokevirtual 568, 3) := by decide +kernel
theorem dX19_feed_44 : decode cX19_feed 44 = .ok (.aload_n 0, 1) := by decide +kernel
theorem dX19_feed_45 : decode cX19_feed 45 = .ok (.iload_n 3, 1) := by decide +kernel
theorem dX19_feed_46 : decode cX19_feed 46 = .ok (.aload_n 0, 1) := by decide +kernel
theorem dX19_feed_47 : decode cX19_feed 47 = .ok (.getfield 563, 3) := by decide +kernel
theorem dX19_feed_50 : decode cX19_feed 50 = .ok (.bipush 8, 2) := by decide +kernel
theorem dX19_feed_52 : decode cX19_feed 52 = .ok (.iadd, 1) := by decide +kernel
theorem dX19_feed_53 : decode cX19_feed 53 = .ok (.invokevirtual 568, 3) := by decide +kernel
theorem dX19_feed_56 : decode cX19_feed 56 = .ok (.aload_n 0, 1) := by decide +kernel
theorem dX19_feed_57 : decode cX19_feed 57 = .ok (.iload 4, 2) := by decide +kernel
theorem dX19_feed_59 : decode cX19_feed 59 = .ok (.aload_n 0, 1) := by decide +kernel
theorem dX19_feed_60 : decode cX19_feed 60 = .ok (.getfield 563, 3) := by decide +kernel
theorem dX19_feed_63 : decode cX19_feed 63 = .ok (.bipush 12, 2) := by decide +kernel
theorem dX19_feed_65 : decode cX19_feed 65 = .ok (.iadd, 1) := by decide +kernel
theorem dX19_feed_66 : decode cX19_feed 66 = .ok (.invokevirtual 568, 3) := by decide +kernel
theorem dX19_feed_69 : decode cX19_feed 69 = .ok (.aload_n 0, 1) := by decide +kernel
theorem dX19_feed_70 : decode cX19_feed 70 = .ok (.iload 5, 2) := by decide +kernel
theorem dX19_feed_72 : decode cX19_feed 72 = .ok (.aload_n 0, 1) := by decide +kernel
theorem dX19_feed_73 : decode cX19_feed 73 = .ok (.getfield 563, 3) := by decide +kernel
theorem dX19_feed_76 : decode cX19_feed 76 = .ok (.bipush 16, 2) := by decide +kernel
theorem dX19_feed_78 : decode cX19_feed 78 = .ok (.iadd, 1) := by decide +kernel
theorem dX19_feed_79 : decode cX19_feed 79 = .ok (.invokevirtual 568, 3) := by decide +kernel
theorem dX19_feed_82 : decode cX19_feed 82 = .ok (.aload_n 0, 1) := by decide +kernel
theorem dX19_feed_83 : decode cX19_feed 83 = .ok (.dup, 1) := by decide +kernel
theorem dX19_feed_84 : decode cX19_feed 84 = .ok (.getfield 563, 3) := by decide +kernel
theorem dX19_feed_87 : decode cX19_feed 87 = .ok (.bipush 20, 2) := by decide +kernel
theorem dX19_feed_89 : decode cX19_feed 89 = .ok (.iadd, 1) := by decide +kernel
theorem dX19_feed_90 : decode cX19_feed 90 = .ok (.putfield 563, 3) := by decide +kernel
theorem dX19_feed_93 : decode cX19_feed 93 = .ok (.aload_n 0, 1) := by decide +kernel
theorem dX19_feed_94 : decode cX19_feed 94 = .ok (.getfield 563, 3) := by decide +kernel
theorem dX19_feed_97 : decode cX19_feed 97 = .ok (.ireturn, 1) := by decide +kernel
def o_X19_feed : List Cond := [.fieldLink RX19 560 "SsaForgeModel" "thrown" "I", .fieldLink RX19 563 "SsaForgeModel" "size" "I", .methodLink RX19 568 yX19_word, .instanceMethod yX19_word, .selects RX19 yX19_word yX19_word, .initialized RX19]
def v_X19_feed : List Cond := .code yX19_feed cX19_feed 6 (some .int) :: (o_X19_feed ++ (wsX190 ++ (v_X19_word0 ++ (v_X19_word4 ++ (v_X19_word8 ++ (v_X19_word12 ++ (v_X19_word16 ++ [])))))))
theorem mow_X19_feed : ∀ w ∈ o_X19_feed, w ∈ v_X19_feed := fun _ h => List.mem_cons_of_mem _ (List.mem_append_left _ h)
theorem mem_X19_feed_0 : ∀ w ∈ wsX190, w ∈ v_X19_feed := fun _ h => List.mem_cons_of_mem _ (List.mem_append_right _ (List.mem_append_left _ h))
theorem mem_X19_feed_1 : ∀ w ∈ v_X19_word0, w ∈ v_X19_feed := fun _ h => List.mem_cons_of_mem _ (List.mem_append_right _ (List.mem_append_right _ (List.mem_append_left _ h)))
theorem mem_X19_feed_2 : ∀ w ∈ v_X19_word4, w ∈ v_X19_feed := fun _ h => List.mem_cons_of_mem _ (List.mem_append_right _ (List.mem_append_right _ (List.mem_append_right _ (List.mem_append_left _ h))))
theorem mem_X19_feed_3 : ∀ w ∈ v_X19_word8, w ∈ v_X19_feed := fun _ h => List.mem_cons_of_mem _ (List.mem_append_right _ (List.mem_append_right _ (List.mem_append_right _ (List.mem_append_right _ (List.mem_append_left _ h)))))
theorem mem_X19_feed_4 : ∀ w ∈ v_X19_word12, w ∈ v_X19_feed := fun _ h => List.mem_cons_of_mem _ (List.mem_append_right _ (List.mem_append_right _ (List.mem_append_right _ (List.mem_append_right _ (List.mem_append_right _ (List.mem_append_left _ h))))))
theorem mem_X19_feed_5 : ∀ w ∈ v_X19_word16, w ∈ v_X19_feed := fun _ h => List.mem_cons_of_mem _ (List.mem_append_right _ (List.mem_append_right _ (List.mem_append_right _ (List.mem_append_right _ (List.mem_append_right _ (List.mem_append_right _ (List.mem_append_left _ h)))))))
set_option maxRecDepth 20000 in
theorem gw_X19_feed : v_X19_feed.all goodWord = true := by decide +kernel
set_option maxRecDepth 20000 in
theorem g_X19_feed_X19_word0 : GoodIn v_X19_feed (wsV RX19 568 RX19 yX19_word v_X19_word0) := goodIn_app (goodIn_sub (fun w h => mow_X19_feed w (by revert w h; decide +kernel)) (by decide +kernel)) (goodIn_sub mem_X19_feed_1 gw_X19_word0)
set_option maxRecDepth 20000 in
theorem g_X19_feed_X19_word4 : GoodIn v_X19_feed (wsV RX19 568 RX19 yX19_word v_X19_word4) := goodIn_app (goodIn_sub (fun w h => mow_X19_feed w (by revert w h; decide +kernel)) (by decide +kernel)) (goodIn_sub mem_X19_feed_2 gw_X19_word4)
set_option maxRecDepth 20000 in
theorem g_X19_feed_X19_word8 : GoodIn v_X19_feed (wsV RX19 568 RX19 yX19_word v_X19_word8) := goodIn_app (goodIn_sub (fun w h => mow_X19_feed w (by revert w h; decide +kernel)) (by decide +kernel)) (goodIn_sub mem_X19_feed_3 gw_X19_word8)
set_option maxRecDepth 20000 in
theorem g_X19_feed_X19_word12 : GoodIn v_X19_feed (wsV RX19 568 RX19 yX19_word v_X19_word12) := goodIn_app (goodIn_sub (fun w h => mow_X19_feed w (by revert w h; decide +kernel)) (by decide +kernel)) (goodIn_sub mem_X19_feed_4 gw_X19_word12)
set_option maxRecDepth 20000 in
theorem g_X19_feed_X19_word16 : GoodIn v_X19_feed (wsV RX19 568 RX19 yX19_word v_X19_word16) := goodIn_app (goodIn_sub (fun w h => mow_X19_feed w (by revert w h; decide +kernel)) (by decide +kernel)) (goodIn_sub mem_X19_feed_5 gw_X19_word16)
set_option maxHeartbeats 4000000 in
set_option maxRecDepth 100000 in
theorem c_X19_feed (l : Launch) (dC : Nat → ClassId) (dI : Nat → Nat → Nat) (h0 : Nat) (q_1 : Nat) (q_12 : Nat) (q_17 : Nat) (q_22 : Nat) (q_24 : Nat) (q_26 : Nat) (q_28 : Nat) (q_29 : Nat) (q_31 : Nat) (q_33 : Nat) (q_35 : Nat) (q_37 : Nat) (q_39 : Nat) (q_41 : Nat) (q_43 : Nat) (q_45 : Nat) (q_47 : Nat) (q_49 : Nat) (q_51 : Nat) (q_53 : Nat) (q_55 : Nat) (q_57 : Nat) (q_59 : Nat) (q_61 : Nat) (q_63 : Nat) (q_65 : Nat) (q_68 : Nat) (q_70 : Nat) (q_72 : Nat) (cA_69 : ClassId) (p0 : Int32) (p1 : Int32) (p2 : Int32) (p3 : Int32) (p4 : Int32) (sz : Nat) : Met l yX19_feed v_X19_feed ({ frames := 1, cells := 0, slots := 0, locals := 23 }) (va_Pc [.ref h0, .int p0, .int p1, .int p2, .int p3, .int p4] (fun U => U.heap.size = sz ∧ va_P (dC, dI) vwP [(h0, .inr (16, [.ref q_1, .ref q_12, .ref q_17, .ref q_22, .ref q_24, .ref q_26, .ref q_28, .ref q_29, .ref q_31, .ref q_33, .ref q_35, .int 0, .ref q_37, .ref q_39, .ref q_41, .ref q_43, .ref q_45, .ref q_47, .ref q_49, .ref q_51, .ref q_53, .ref q_55, .ref q_57, .int 0, .ref q_59, .ref q_61, .ref q_63, .int (-1), .int 0, .int 0, .int 0, .int 0, .ref q_65, .int 0, .ref q_68, .int 0, .int (-1), .int 0, .int 0, .ref q_70, .ref q_72])), (q_68, .inl (cA_69, 8192, .inl (fun _ => 0)))] U.heap ∧ va_K (dC, dI) vwP [(cA_69, .byte)] U ∧ va_D (fun _ => True) [(h0, .inr (16, [.ref q_1, .ref q_12, .ref q_17, .ref q_22, .ref q_24, .ref q_26, .ref q_28, .ref q_29, .ref q_31, .ref q_33, .ref q_35, .int 0, .ref q_37, .ref q_39, .ref q_41, .ref q_43, .ref q_45, .ref q_47, .ref q_49, .ref q_51, .ref q_53, .ref q_55, .ref q_57, .int 0, .ref q_59, .ref q_61, .ref q_63, .int (-1), .int 0, .int 0, .int 0, .int 0, .ref q_65, .int 0, .ref q_68, .int 0, .int (-1), .int 0, .int 0, .ref q_70, .ref q_72])), (q_68, .inl (cA_69, 8192, .inl (fun _ => 0)))])) (va_Qi (fun (r : Int32) (_ : Unit) => kf_feed = 0 → r = vf_feed) (fun (_ : Unit) (t : State) => ∃ (i_33 : Int32) (i_35 : Int32) (i_36 : Int32) (i_37 : Int32) (q_940 : Nat), (i_33 = kf_feed) ∧ va_P (dC, dI) vwP [(h0, .inr (16, [.ref q_1, .ref q_12, .ref q_17, .ref q_22, .ref q_24, .ref q_26, .ref q_28, .ref q_29, .ref q_31, .ref q_33, .ref q_35, .int 0, .ref q_37, .ref q_39, .ref q_41, .ref q_43, .ref q_45, .ref q_47, .ref q_49, .ref q_51, .ref q_53, .ref q_55, .ref q_57, .int 0, .ref q_59, .ref q_61, .ref q_63, .int (-1), .int 0, .int 0, .int 0, .int 0, .ref q_65, .int i_33, .ref q_68, .int i_35, .int i_36, .int i_37, .int 0, .ref q_70, .ref q_940]))] t.heap ∧ va_K (dC, dI) vwP [] t ∧ va_D (va_A [(h0, .inr (16, [.ref q_1, .ref q_12, .ref q_17, .ref q_22, .ref q_24, .ref q_26, .ref q_28, .ref q_29, .ref q_31, .ref q_33, .ref q_35, .int 0, .ref q_37, .ref q_39, .ref q_41, .ref q_43, .ref q_45, .ref q_47, .ref q_49, .ref q_51, .ref q_53, .ref q_55, .ref q_57, .int 0, .ref q_59, .ref q_61, .ref q_63, .int (-1), .int 0, .int 0, .int 0, .int 0, .ref q_65, .int 0, .ref q_68, .int 0, .int (-1), .int 0, .int 0, .ref q_70, .ref q_72])), (q_68, .inl (cA_69, 8192, .inl (fun _ => 0)))] sz) [(h0, .inr (16, [.ref q_1, .ref q_12, .ref q_17, .ref q_22, .ref q_24, .ref q_26, .ref q_28, .ref q_29, .ref q_31, .ref q_33, .ref q_35, .int 0, .ref q_37, .ref q_39, .ref q_41, .ref q_43, .ref q_45, .ref q_47, .ref q_49, .ref q_51, .ref q_53, .ref q_55, .ref q_57, .int 0, .ref q_59, .ref q_61, .ref q_63, .int (-1), .int 0, .int 0, .int 0, .int 0, .ref q_65, .int i_33, .ref q_68, .int i_35, .int i_36, .int i_37, .int 0, .ref q_70, .ref q_940]))]) (va_A [(h0, .inr (16, [.ref q_1, .ref q_12, .ref q_17, .ref q_22, .ref q_24, .ref q_26, .ref q_28, .ref q_29, .ref q_31, .ref q_33, .ref q_35, .int 0, .ref q_37, .ref q_39, .ref q_41, .ref q_43, .ref q_45, .ref q_47, .ref q_49, .ref q_51, .ref q_53, .ref q_55, .ref q_57, .int 0, .ref q_59, .ref q_61, .ref q_63, .int (-1), .int 0, .int 0, .int 0, .int 0, .ref q_65, .int 0, .ref q_68, .int 0, .int (-1), .int 0, .int 0, .ref q_70, .ref q_72])), (q_68, .inl (cA_69, 8192, .inl (fun _ => 0)))] sz)) 0 0 (va_A [(h0, .inr (16, [.ref q_1, .ref q_12, .ref q_17, .ref q_22, .ref q_24, .ref q_26, .ref q_28, .ref q_29, .ref q_31, .ref q_33, .ref q_35, .int 0, .ref q_37, .ref q_39, .ref q_41, .ref q_43, .ref q_45, .ref q_47, .ref q_49, .ref q_51, .ref q_53, .ref q_55, .ref q_57, .int 0, .ref q_59, .ref q_61, .ref q_63, .int (-1), .int 0, .int 0, .int 0, .int 0, .ref q_65, .int 0, .ref q_68, .int 0, .int (-1), .int 0, .int 0, .ref q_70, .ref q_72])), (q_68, .inl (cA_69, 8192, .inl (fun _ => 0)))] sz) := by
  refine Met.ofW (cc := cX19_feed) (maxL := 6) (ret := (some .int)) (by decide) rfl ?_
  intro p e s m args below meth c s₁ B hml hv
  obtain ⟨rfl, hsz, hP, hK, hD0⟩ := hv
  have hx := B.exec
  have hb := B.bytes
  have hr := B.returns
  have hts := atoms_spec (ws := v_X19_feed) B.pre
  have hown : s.vm.findClass RX19 = some m.cls := findClass_of_methodNamed B.named
  have hlocks := B.notSynchronized
  have ow : ∀ {k : Nat} {w : Cond}, o_X19_feed[k]? = some w → w.before ([.ref h0, .int p0, .int p1, .int p2, .int p3, .int p4] : List Value).toArray s = true := fun h => hts _ (mow_X19_feed _ (List.mem_of_getElem? h))
  subst hsz
  have hD := hD0.self (sz := s.heap.size)
  generalize hAe : va_A [(h0, .inr (16, [.ref q_1, .ref q_12, .ref q_17, .ref q_22, .ref q_24, .ref q_26, .ref q_28, .ref q_29, .ref q_31, .ref q_33, .ref q_35, .int 0, .ref q_37, .ref q_39, .ref q_41, .ref q_43, .ref q_45, .ref q_47, .ref q_49, .ref q_51, .ref q_53, .ref q_55, .ref q_57, .int 0, .ref q_59, .ref q_61, .ref q_63, .int (-1), .int 0, .int 0, .int 0, .int 0, .ref q_65, .int 0, .ref q_68, .int 0, .int (-1), .int 0, .int 0, .ref q_70, .ref q_72])), (q_68, .inl (cA_69, 8192, .inl (fun _ => 0)))] s.heap.size = A at hD ⊢
  have hA : ∀ q : Nat, s.heap.size ≤ q → A q := fun q h => by rw [← hAe]; exact Or.inr h
  have hS : va_S A s.heap s.heap [] := va_S.rf
  have hP : va_P (dC, dI) vwP [(h0, .inr (16, [.ref q_1, .ref q_12, .ref q_17, .ref q_22, .ref q_24, .ref q_26, .ref q_28, .ref q_29, .ref q_31, .ref q_33, .ref q_35, .int 0, .ref q_37, .ref q_39, .ref q_41, .ref q_43, .ref q_45, .ref q_47, .ref q_49, .ref q_51, .ref q_53, .ref q_55, .ref q_57, .int 0, .ref q_59, .ref q_61, .ref q_63, .int (-1), .int 0, .int 0, .int 0, .int 0, .ref q_65, .int 0, .ref q_68, .int 0, .int (-1), .int 0, .int 0, .ref q_70, .ref q_72])), (q_68, .inl (cA_69, 8192, .inl (fun _ => 0)))] s.heap := hP
  have hl := lv_entry ([.ref h0, .int p0, .int p1, .int p2, .int p3, .int p4]) (n := 6) (Nat.le_of_ble_eq_true rfl)
  rw [lg_entry_eq]
  generalize (lg_sl ([.ref h0, .int p0, .int p1, .int p2, .int p3, .int p4]) ++ List.replicate (6 - (lg_sl ([.ref h0, .int p0, .int p1, .int p2, .int p3, .int p4])).length) Slot.unset).toArray = ls at hl ⊢
  have hl : lv_has ls 6 [(0, .ref h0), (1, .int p0), (2, .int p1), (3, .int p2), (4, .int p3), (5, .int p4)] := hl
  obtain ⟨H, hH⟩ : ∃ H, H = s.heap := ⟨_, rfl⟩
  rw [← hH] at hP
  have hS : va_S A s.heap H [] := by rw [hH]; exact hS
  rw [← hH]
  refine lv_aload_n hx hb dX19_feed_0 rfl (lv_at hl 0 rfl) ?_
  refine lv_iconst (v := 0) hx hb dX19_feed_1 (by decide) ?_
  refine va_put (D := (dC, dI)) (ci := 16) (v := .int 0) (ty := .int) (C := RX19) (T := TX19) (N := 41) hx hb hts mem_X19_feed_0 tyX19 tyX19_ok nmX19 hown hK hP hD hS 0 rfl rfl 33 (by decide) (ow (k := 0) rfl) (fun _ h9 => h9) rfl (by decide +kernel) rfl rfl (Nat.le_of_ble_eq_true rfl) dX19_feed_2 (fun H locs hP hD hS => ?_)
  have hP : va_P (dC, dI) vwP [(h0, .inr (16, [.ref q_1, .ref q_12, .ref q_17, .ref q_22, .ref q_24, .ref q_26, .ref q_28, .ref q_29, .ref q_31, .ref q_33, .ref q_35, .int 0, .ref q_37, .ref q_39, .ref q_41, .ref q_43, .ref q_45, .ref q_47, .ref q_49, .ref q_51, .ref q_53, .ref q_55, .ref q_57, .int 0, .ref q_59, .ref q_61, .ref q_63, .int (-1), .int 0, .int 0, .int 0, .int 0, .ref q_65, .int 0, .ref q_68, .int 0, .int (-1), .int 0, .int 0, .ref q_70, .ref q_72])), (q_68, .inl (cA_69, 8192, .inl (fun _ => 0)))] H := hP
  have hD : va_D A [(h0, .inr (16, [.ref q_1, .ref q_12, .ref q_17, .ref q_22, .ref q_24, .ref q_26, .ref q_28, .ref q_29, .ref q_31, .ref q_33, .ref q_35, .int 0, .ref q_37, .ref q_39, .ref q_41, .ref q_43, .ref q_45, .ref q_47, .ref q_49, .ref q_51, .ref q_53, .ref q_55, .ref q_57, .int 0, .ref q_59, .ref q_61, .ref q_63, .int (-1), .int 0, .int 0, .int 0, .int 0, .ref q_65, .int 0, .ref q_68, .int 0, .int (-1), .int 0, .int 0, .ref q_70, .ref q_72])), (q_68, .inl (cA_69, 8192, .inl (fun _ => 0)))] := hD
  refine lv_aload_n hx hb dX19_feed_5 rfl (lv_at hl 0 rfl) ?_
  refine va_get (D := (dC, dI)) (ci := 16) (v := .int 0) (C := RX19) (T := TX19) (N := 41) hx hb hts mem_X19_feed_0 hown hK hP 0 rfl rfl 35 (by decide) (ow (k := 1) rfl) (fun _ h9 => h9) rfl dX19_feed_6 ?_
  refine lv_bipush (v := 20) hx hb dX19_feed_9 (by decide) ?_
  refine lv_iadd hx hb dX19_feed_11 ?_
  refine lv_topi (fun z ez => ?_)
  obtain rfl : z = 20 := by rw [ez]; decide
  refine lv_sipush (v := 8192) hx hb dX19_feed_12 (by decide) ?_
  refine lv_icmp_le (tgt := 24) hx hb dX19_feed_15 (by decide) (fun _ => ?_) (fun h9 => absurd h9 (by decide))
  refine lv_aload_n hx hb dX19_feed_24 rfl (lv_at hl 0 rfl) ?_
  refine lv_iload_n hx hb dX19_feed_25 rfl (lv_at hl 1 rfl) ?_
  refine lv_aload_n hx hb dX19_feed_26 rfl (lv_at hl 0 rfl) ?_
  refine va_get (D := (dC, dI)) (ci := 16) (v := .int 0) (C := RX19) (T := TX19) (N := 41) hx hb hts mem_X19_feed_0 hown hK hP 0 rfl rfl 35 (by decide) (ow (k := 1) rfl) (fun _ h9 => h9) rfl dX19_feed_27 ?_
  have hPc := hP.sub (ws' := [(h0, .inr (16, [.ref q_1, .ref q_12, .ref q_17, .ref q_22, .ref q_24, .ref q_26, .ref q_28, .ref q_29, .ref q_31, .ref q_33, .ref q_35, .int 0, .ref q_37, .ref q_39, .ref q_41, .ref q_43, .ref q_45, .ref q_47, .ref q_49, .ref q_51, .ref q_53, .ref q_55, .ref q_57, .int 0, .ref q_59, .ref q_61, .ref q_63, .int (-1), .int 0, .int 0, .int 0, .int 0, .ref q_65, .int 0, .ref q_68, .int 0, .int (-1), .int 0, .int 0, .ref q_70, .ref q_72])), (q_68, .inl (cA_69, 8192, .inl (fun _ => 0)))]) [0, 1] rfl
  have hDc := hD.sub (ws' := [(h0, .inr (16, [.ref q_1, .ref q_12, .ref q_17, .ref q_22, .ref q_24, .ref q_26, .ref q_28, .ref q_29, .ref q_31, .ref q_33, .ref q_35, .int 0, .ref q_37, .ref q_39, .ref q_41, .ref q_43, .ref q_45, .ref q_47, .ref q_49, .ref q_51, .ref q_53, .ref q_55, .ref q_57, .int 0, .ref q_59, .ref q_61, .ref q_63, .int (-1), .int 0, .int 0, .int 0, .int 0, .ref q_65, .int 0, .ref q_68, .int 0, .int (-1), .int 0, .int 0, .ref q_70, .ref q_72])), (q_68, .inl (cA_69, 8192, .inl (fun _ => 0)))]) [0, 1] (by decide) rfl
  have hKc := hK.sub (tys' := [(cA_69, .byte)]) [0] rfl
  have hFc := va_free (wc := [(h0, .inr (16, [.ref q_1, .ref q_12, .ref q_17, .ref q_22, .ref q_24, .ref q_26, .ref q_28, .ref q_29, .ref q_31, .ref q_33, .ref q_35, .int 0, .ref q_37, .ref q_39, .ref q_41, .ref q_43, .ref q_45, .ref q_47, .ref q_49, .ref q_51, .ref q_53, .ref q_55, .ref q_57, .int 0, .ref q_59, .ref q_61, .ref q_63, .int (-1), .int 0, .int 0, .int 0, .int 0, .ref q_65, .int 0, .ref q_68, .int 0, .int (-1), .int 0, .int 0, .ref q_70, .ref q_72])), (q_68, .inl (cA_69, 8192, .inl (fun _ => 0)))]) hD hS hA [0, 1] rfl
  refine va_callv (va_runV (As := [.int p0, .int 0]) (rest := []) ⟨hx, hb, hml, hown, hts⟩ (c_X19_word0 l dC dI h0 q_1 q_12 q_17 q_22 q_24 q_26 q_28 q_29 q_31 q_33 q_35 q_37 q_39 q_41 q_43 q_45 q_47 q_49 q_51 q_53 q_55 q_57 q_59 q_61 q_63 q_65 q_68 q_70 q_72 cA_69 ((fun _ => 0)) p0 H.size) (cwV 2 hts g_X19_feed_X19_word0 rfl rfl rfl (by decide +kernel) ⟨(Nat.le_of_ble_eq_true rfl), (Nat.le_of_ble_eq_true rfl)⟩) ⟨fun a U g mk q => by obtain ⟨q0, q1, qP, qK, qD⟩ := q; exact ⟨q0, q1, qP, va_K.moved (u := U) (U := U.calling g mk a) (Vm.Alike.refl U.vm) qK, qD⟩, va_recv hKc hPc (ci := 16) (q0 := 0) rfl rfl, fun U hU hW => ⟨rfl, by rw [hU], by rw [hU]; exact hPc, va_K.moved hW.alike hKc, hDc.weaken (fun _ _ _ _ => trivial)⟩⟩ rfl rfl hl.1 rfl (lv_room (Nat.le_of_ble_eq_true rfl)) dX19_feed_30 ⟨(Nat.le_of_ble_eq_true rfl), (Nat.le_of_ble_eq_true rfl)⟩) hS (fun q _ h => hFc q h) hFc (fun  u t H1 locs ht hvm hw hB hz1 hk1 hS => ?_)
  obtain ⟨g0_2001, hP1, hK1, hD1⟩ := hB
  rw [ht] at hP1
  have hK1 := va_K.moved hvm.symm hK1
  obtain ⟨hP, hD⟩ := va_join (wr := []) (w1 := [(h0, .inr (16, [.ref q_1, .ref q_12, .ref q_17, .ref q_22, .ref q_24, .ref q_26, .ref q_28, .ref q_29, .ref q_31, .ref q_33, .ref q_35, .int 0, .ref q_37, .ref q_39, .ref q_41, .ref q_43, .ref q_45, .ref q_47, .ref q_49, .ref q_51, .ref q_53, .ref q_55, .ref q_57, .int 0, .ref q_59, .ref q_61, .ref q_63, .int (-1), .int 0, .int 0, .int 0, .int 0, .ref q_65, .int 0, .ref q_68, .int 0, .int (-1), .int 0, .int 0, .ref q_70, .ref q_72])), (q_68, .inl (cA_69, 8192, .inl g0_2001))]) hP hD [0, 1] [] rfl rfl (by decide) (by decide) hk1 hFc hP1 hD1
  have hK := (hK.sub (tys' := []) [] rfl).app hK1
  generalize H1 = H at hP hS ⊢
  have hP : va_P (dC, dI) vwP [(h0, .inr (16, [.ref q_1, .ref q_12, .ref q_17, .ref q_22, .ref q_24, .ref q_26, .ref q_28, .ref q_29, .ref q_31, .ref q_33, .ref q_35, .int 0, .ref q_37, .ref q_39, .ref q_41, .ref q_43, .ref q_45, .ref q_47, .ref q_49, .ref q_51, .ref q_53, .ref q_55, .ref q_57, .int 0, .ref q_59, .ref q_61, .ref q_63, .int (-1), .int 0, .int 0, .int 0, .int 0, .ref q_65, .int 0, .ref q_68, .int 0, .int (-1), .int 0, .int 0, .ref q_70, .ref q_72])), (q_68, .inl (cA_69, 8192, .inl g0_2001))] H := hP
  have hD : va_D A [(h0, .inr (16, [.ref q_1, .ref q_12, .ref q_17, .ref q_22, .ref q_24, .ref q_26, .ref q_28, .ref q_29, .ref q_31, .ref q_33, .ref q_35, .int 0, .ref q_37, .ref q_39, .ref q_41, .ref q_43, .ref q_45, .ref q_47, .ref q_49, .ref q_51, .ref q_53, .ref q_55, .ref q_57, .int 0, .ref q_59, .ref q_61, .ref q_63, .int (-1), .int 0, .int 0, .int 0, .int 0, .ref q_65, .int 0, .ref q_68, .int 0, .int (-1), .int 0, .int 0, .ref q_70, .ref q_72])), (q_68, .inl (cA_69, 8192, .inl g0_2001))] := hD
  have hK : va_K (dC, dI) vwP [(cA_69, .byte)] s := hK
  refine W.widen (k := 0) (n := 0) (Nat.le_of_ble_eq_true rfl) (Nat.le_of_ble_eq_true rfl) ?_
  refine lv_aload_n hx hb dX19_feed_33 rfl (lv_at hl 0 rfl) ?_
  refine lv_iload_n hx hb dX19_feed_34 rfl (lv_at hl 2 rfl) ?_
  refine lv_aload_n hx hb dX19_feed_35 rfl (lv_at hl 0 rfl) ?_
  refine va_get (D := (dC, dI)) (ci := 16) (v := .int 0) (C := RX19) (T := TX19) (N := 41) hx hb hts mem_X19_feed_0 hown hK hP 0 rfl rfl 35 (by decide) (ow (k := 1) rfl) (fun _ h9 => h9) rfl dX19_feed_36 ?_
  refine lv_iconst (v := 4) hx hb dX19_feed_39 (by decide) ?_
  refine lv_iadd hx hb dX19_feed_40 ?_
  refine lv_topi (fun z ez => ?_)
  obtain rfl : z = 4 := by rw [ez]; decide
  have hPc := hP.sub (ws' := [(h0, .inr (16, [.ref q_1, .ref q_12, .ref q_17, .ref q_22, .ref q_24, .ref q_26, .ref q_28, .ref q_29, .ref q_31, .ref q_33, .ref q_35, .int 0, .ref q_37, .ref q_39, .ref q_41, .ref q_43, .ref q_45, .ref q_47, .ref q_49, .ref q_51, .ref q_53, .ref q_55, .ref q_57, .int 0, .ref q_59, .ref q_61, .ref q_63, .int (-1), .int 0, .int 0, .int 0, .int 0, .ref q_65, .int 0, .ref q_68, .int 0, .int (-1), .int 0, .int 0, .ref q_70, .ref q_72])), (q_68, .inl (cA_69, 8192, .inl g0_2001))]) [0, 1] rfl
  have hDc := hD.sub (ws' := [(h0, .inr (16, [.ref q_1, .ref q_12, .ref q_17, .ref q_22, .ref q_24, .ref q_26, .ref q_28, .ref q_29, .ref q_31, .ref q_33, .ref q_35, .int 0, .ref q_37, .ref q_39, .ref q_41, .ref q_43, .ref q_45, .ref q_47, .ref q_49, .ref q_51, .ref q_53, .ref q_55, .ref q_57, .int 0, .ref q_59, .ref q_61, .ref q_63, .int (-1), .int 0, .int 0, .int 0, .int 0, .ref q_65, .int 0, .ref q_68, .int 0, .int (-1), .int 0, .int 0, .ref q_70, .ref q_72])), (q_68, .inl (cA_69, 8192, .inl g0_2001))]) [0, 1] (by decide) rfl
  have hKc := hK.sub (tys' := [(cA_69, .byte)]) [0] rfl
  have hFc := va_free (wc := [(h0, .inr (16, [.ref q_1, .ref q_12, .ref q_17, .ref q_22, .ref q_24, .ref q_26, .ref q_28, .ref q_29, .ref q_31, .ref q_33, .ref q_35, .int 0, .ref q_37, .ref q_39, .ref q_41, .ref q_43, .ref q_45, .ref q_47, .ref q_49, .ref q_51, .ref q_53, .ref q_55, .ref q_57, .int 0, .ref q_59, .ref q_61, .ref q_63, .int (-1), .int 0, .int 0, .int 0, .int 0, .ref q_65, .int 0, .ref q_68, .int 0, .int (-1), .int 0, .int 0, .ref q_70, .ref q_72])), (q_68, .inl (cA_69, 8192, .inl g0_2001))]) hD hS hA [0, 1] rfl
  refine va_callv (va_runV (As := [.int p1, .int 4]) (rest := []) ⟨hx, hb, hml, hown, hts⟩ (c_X19_word4 l dC dI h0 q_1 q_12 q_17 q_22 q_24 q_26 q_28 q_29 q_31 q_33 q_35 q_37 q_39 q_41 q_43 q_45 q_47 q_49 q_51 q_53 q_55 q_57 q_59 q_61 q_63 q_65 q_68 q_70 q_72 cA_69 g0_2001 p1 H.size) (cwV 2 hts g_X19_feed_X19_word4 rfl rfl rfl (by decide +kernel) ⟨(Nat.le_of_ble_eq_true rfl), (Nat.le_of_ble_eq_true rfl)⟩) ⟨fun a U g mk q => by obtain ⟨q0, q1, qP, qK, qD⟩ := q; exact ⟨q0, q1, qP, va_K.moved (u := U) (U := U.calling g mk a) (Vm.Alike.refl U.vm) qK, qD⟩, va_recv hKc hPc (ci := 16) (q0 := 0) rfl rfl, fun U hU hW => ⟨rfl, by rw [hU], by rw [hU]; exact hPc, va_K.moved hW.alike hKc, hDc.weaken (fun _ _ _ _ => trivial)⟩⟩ rfl rfl hl.1 rfl (lv_room (Nat.le_of_ble_eq_true rfl)) dX19_feed_41 ⟨(Nat.le_of_ble_eq_true rfl), (Nat.le_of_ble_eq_true rfl)⟩) hS (fun q _ h => hFc q h) hFc (fun  u t H1 locs ht hvm hw hB hz1 hk1 hS => ?_)
  obtain ⟨g0_2002, hP1, hK1, hD1⟩ := hB
  rw [ht] at hP1
  have hK1 := va_K.moved hvm.symm hK1
  obtain ⟨hP, hD⟩ := va_join (wr := []) (w1 := [(h0, .inr (16, [.ref q_1, .ref q_12, .ref q_17, .ref q_22, .ref q_24, .ref q_26, .ref q_28, .ref q_29, .ref q_31, .ref q_33, .ref q_35, .int 0, .ref q_37, .ref q_39, .ref q_41, .ref q_43, .ref q_45, .ref q_47, .ref q_49, .ref q_51, .ref q_53, .ref q_55, .ref q_57, .int 0, .ref q_59, .ref q_61, .ref q_63, .int (-1), .int 0, .int 0, .int 0, .int 0, .ref q_65, .int 0, .ref q_68, .int 0, .int (-1), .int 0, .int 0, .ref q_70, .ref q_72])), (q_68, .inl (cA_69, 8192, .inl g0_2002))]) hP hD [0, 1] [] rfl rfl (by decide) (by decide) hk1 hFc hP1 hD1
  have hK := (hK.sub (tys' := []) [] rfl).app hK1
  generalize H1 = H at hP hS ⊢
  have hP : va_P (dC, dI) vwP [(h0, .inr (16, [.ref q_1, .ref q_12, .ref q_17, .ref q_22, .ref q_24, .ref q_26, .ref q_28, .ref q_29, .ref q_31, .ref q_33, .ref q_35, .int 0, .ref q_37, .ref q_39, .ref q_41, .ref q_43, .ref q_45, .ref q_47, .ref q_49, .ref q_51, .ref q_53, .ref q_55, .ref q_57, .int 0, .ref q_59, .ref q_61, .ref q_63, .int (-1), .int 0, .int 0, .int 0, .int 0, .ref q_65, .int 0, .ref q_68, .int 0, .int (-1), .int 0, .int 0, .ref q_70, .ref q_72])), (q_68, .inl (cA_69, 8192, .inl g0_2002))] H := hP
  have hD : va_D A [(h0, .inr (16, [.ref q_1, .ref q_12, .ref q_17, .ref q_22, .ref q_24, .ref q_26, .ref q_28, .ref q_29, .ref q_31, .ref q_33, .ref q_35, .int 0, .ref q_37, .ref q_39, .ref q_41, .ref q_43, .ref q_45, .ref q_47, .ref q_49, .ref q_51, .ref q_53, .ref q_55, .ref q_57, .int 0, .ref q_59, .ref q_61, .ref q_63, .int (-1), .int 0, .int 0, .int 0, .int 0, .ref q_65, .int 0, .ref q_68, .int 0, .int (-1), .int 0, .int 0, .ref q_70, .ref q_72])), (q_68, .inl (cA_69, 8192, .inl g0_2002))] := hD
  have hK : va_K (dC, dI) vwP [(cA_69, .byte)] s := hK
  refine W.widen (k := 0) (n := 0) (Nat.le_of_ble_eq_true rfl) (Nat.le_of_ble_eq_true rfl) ?_
  refine lv_aload_n hx hb dX19_feed_44 rfl (lv_at hl 0 rfl) ?_
  refine lv_iload_n hx hb dX19_feed_45 rfl (lv_at hl 3 rfl) ?_
  refine lv_aload_n hx hb dX19_feed_46 rfl (lv_at hl 0 rfl) ?_
  refine va_get (D := (dC, dI)) (ci := 16) (v := .int 0) (C := RX19) (T := TX19) (N := 41) hx hb hts mem_X19_feed_0 hown hK hP 0 rfl rfl 35 (by decide) (ow (k := 1) rfl) (fun _ h9 => h9) rfl dX19_feed_47 ?_
  refine lv_bipush (v := 8) hx hb dX19_feed_50 (by decide) ?_
  refine lv_iadd hx hb dX19_feed_52 ?_
  refine lv_topi (fun z ez => ?_)
  obtain rfl : z = 8 := by rw [ez]; decide
  have hPc := hP.sub (ws' := [(h0, .inr (16, [.ref q_1, .ref q_12, .ref q_17, .ref q_22, .ref q_24, .ref q_26, .ref q_28, .ref q_29, .ref q_31, .ref q_33, .ref q_35, .int 0, .ref q_37, .ref q_39, .ref q_41, .ref q_43, .ref q_45, .ref q_47, .ref q_49, .ref q_51, .ref q_53, .ref q_55, .ref q_57, .int 0, .ref q_59, .ref q_61, .ref q_63, .int (-1), .int 0, .int 0, .int 0, .int 0, .ref q_65, .int 0, .ref q_68, .int 0, .int (-1), .int 0, .int 0, .ref q_70, .ref q_72])), (q_68, .inl (cA_69, 8192, .inl g0_2002))]) [0, 1] rfl
  have hDc := hD.sub (ws' := [(h0, .inr (16, [.ref q_1, .ref q_12, .ref q_17, .ref q_22, .ref q_24, .ref q_26, .ref q_28, .ref q_29, .ref q_31, .ref q_33, .ref q_35, .int 0, .ref q_37, .ref q_39, .ref q_41, .ref q_43, .ref q_45, .ref q_47, .ref q_49, .ref q_51, .ref q_53, .ref q_55, .ref q_57, .int 0, .ref q_59, .ref q_61, .ref q_63, .int (-1), .int 0, .int 0, .int 0, .int 0, .ref q_65, .int 0, .ref q_68, .int 0, .int (-1), .int 0, .int 0, .ref q_70, .ref q_72])), (q_68, .inl (cA_69, 8192, .inl g0_2002))]) [0, 1] (by decide) rfl
  have hKc := hK.sub (tys' := [(cA_69, .byte)]) [0] rfl
  have hFc := va_free (wc := [(h0, .inr (16, [.ref q_1, .ref q_12, .ref q_17, .ref q_22, .ref q_24, .ref q_26, .ref q_28, .ref q_29, .ref q_31, .ref q_33, .ref q_35, .int 0, .ref q_37, .ref q_39, .ref q_41, .ref q_43, .ref q_45, .ref q_47, .ref q_49, .ref q_51, .ref q_53, .ref q_55, .ref q_57, .int 0, .ref q_59, .ref q_61, .ref q_63, .int (-1), .int 0, .int 0, .int 0, .int 0, .ref q_65, .int 0, .ref q_68, .int 0, .int (-1), .int 0, .int 0, .ref q_70, .ref q_72])), (q_68, .inl (cA_69, 8192, .inl g0_2002))]) hD hS hA [0, 1] rfl
  refine va_callv (va_runV (As := [.int p2, .int 8]) (rest := []) ⟨hx, hb, hml, hown, hts⟩ (c_X19_word8 l dC dI h0 q_1 q_12 q_17 q_22 q_24 q_26 q_28 q_29 q_31 q_33 q_35 q_37 q_39 q_41 q_43 q_45 q_47 q_49 q_51 q_53 q_55 q_57 q_59 q_61 q_63 q_65 q_68 q_70 q_72 cA_69 g0_2002 p2 H.size) (cwV 2 hts g_X19_feed_X19_word8 rfl rfl rfl (by decide +kernel) ⟨(Nat.le_of_ble_eq_true rfl), (Nat.le_of_ble_eq_true rfl)⟩) ⟨fun a U g mk q => by obtain ⟨q0, q1, qP, qK, qD⟩ := q; exact ⟨q0, q1, qP, va_K.moved (u := U) (U := U.calling g mk a) (Vm.Alike.refl U.vm) qK, qD⟩, va_recv hKc hPc (ci := 16) (q0 := 0) rfl rfl, fun U hU hW => ⟨rfl, by rw [hU], by rw [hU]; exact hPc, va_K.moved hW.alike hKc, hDc.weaken (fun _ _ _ _ => trivial)⟩⟩ rfl rfl hl.1 rfl (lv_room (Nat.le_of_ble_eq_true rfl)) dX19_feed_53 ⟨(Nat.le_of_ble_eq_true rfl), (Nat.le_of_ble_eq_true rfl)⟩) hS (fun q _ h => hFc q h) hFc (fun  u t H1 locs ht hvm hw hB hz1 hk1 hS => ?_)
  obtain ⟨g0_2003, hP1, hK1, hD1⟩ := hB
  rw [ht] at hP1
  have hK1 := va_K.moved hvm.symm hK1
  obtain ⟨hP, hD⟩ := va_join (wr := []) (w1 := [(h0, .inr (16, [.ref q_1, .ref q_12, .ref q_17, .ref q_22, .ref q_24, .ref q_26, .ref q_28, .ref q_29, .ref q_31, .ref q_33, .ref q_35, .int 0, .ref q_37, .ref q_39, .ref q_41, .ref q_43, .ref q_45, .ref q_47, .ref q_49, .ref q_51, .ref q_53, .ref q_55, .ref q_57, .int 0, .ref q_59, .ref q_61, .ref q_63, .int (-1), .int 0, .int 0, .int 0, .int 0, .ref q_65, .int 0, .ref q_68, .int 0, .int (-1), .int 0, .int 0, .ref q_70, .ref q_72])), (q_68, .inl (cA_69, 8192, .inl g0_2003))]) hP hD [0, 1] [] rfl rfl (by decide) (by decide) hk1 hFc hP1 hD1
  have hK := (hK.sub (tys' := []) [] rfl).app hK1
  generalize H1 = H at hP hS ⊢
  have hP : va_P (dC, dI) vwP [(h0, .inr (16, [.ref q_1, .ref q_12, .ref q_17, .ref q_22, .ref q_24, .ref q_26, .ref q_28, .ref q_29, .ref q_31, .ref q_33, .ref q_35, .int 0, .ref q_37, .ref q_39, .ref q_41, .ref q_43, .ref q_45, .ref q_47, .ref q_49, .ref q_51, .ref q_53, .ref q_55, .ref q_57, .int 0, .ref q_59, .ref q_61, .ref q_63, .int (-1), .int 0, .int 0, .int 0, .int 0, .ref q_65, .int 0, .ref q_68, .int 0, .int (-1), .int 0, .int 0, .ref q_70, .ref q_72])), (q_68, .inl (cA_69, 8192, .inl g0_2003))] H := hP
  have hD : va_D A [(h0, .inr (16, [.ref q_1, .ref q_12, .ref q_17, .ref q_22, .ref q_24, .ref q_26, .ref q_28, .ref q_29, .ref q_31, .ref q_33, .ref q_35, .int 0, .ref q_37, .ref q_39, .ref q_41, .ref q_43, .ref q_45, .ref q_47, .ref q_49, .ref q_51, .ref q_53, .ref q_55, .ref q_57, .int 0, .ref q_59, .ref q_61, .ref q_63, .int (-1), .int 0, .int 0, .int 0, .int 0, .ref q_65, .int 0, .ref q_68, .int 0, .int (-1), .int 0, .int 0, .ref q_70, .ref q_72])), (q_68, .inl (cA_69, 8192, .inl g0_2003))] := hD
  have hK : va_K (dC, dI) vwP [(cA_69, .byte)] s := hK
  refine W.widen (k := 0) (n := 0) (Nat.le_of_ble_eq_true rfl) (Nat.le_of_ble_eq_true rfl) ?_
  refine lv_aload_n hx hb dX19_feed_56 rfl (lv_at hl 0 rfl) ?_
  refine lv_iload hx hb dX19_feed_57 (lv_at hl 4 rfl) ?_
  refine lv_aload_n hx hb dX19_feed_59 rfl (lv_at hl 0 rfl) ?_
  refine va_get (D := (dC, dI)) (ci := 16) (v := .int 0) (C := RX19) (T := TX19) (N := 41) hx hb hts mem_X19_feed_0 hown hK hP 0 rfl rfl 35 (by decide) (ow (k := 1) rfl) (fun _ h9 => h9) rfl dX19_feed_60 ?_
  refine lv_bipush (v := 12) hx hb dX19_feed_63 (by decide) ?_
  refine lv_iadd hx hb dX19_feed_65 ?_
  refine lv_topi (fun z ez => ?_)
  obtain rfl : z = 12 := by rw [ez]; decide
  have hPc := hP.sub (ws' := [(h0, .inr (16, [.ref q_1, .ref q_12, .ref q_17, .ref q_22, .ref q_24, .ref q_26, .ref q_28, .ref q_29, .ref q_31, .ref q_33, .ref q_35, .int 0, .ref q_37, .ref q_39, .ref q_41, .ref q_43, .ref q_45, .ref q_47, .ref q_49, .ref q_51, .ref q_53, .ref q_55, .ref q_57, .int 0, .ref q_59, .ref q_61, .ref q_63, .int (-1), .int 0, .int 0, .int 0, .int 0, .ref q_65, .int 0, .ref q_68, .int 0, .int (-1), .int 0, .int 0, .ref q_70, .ref q_72])), (q_68, .inl (cA_69, 8192, .inl g0_2003))]) [0, 1] rfl
  have hDc := hD.sub (ws' := [(h0, .inr (16, [.ref q_1, .ref q_12, .ref q_17, .ref q_22, .ref q_24, .ref q_26, .ref q_28, .ref q_29, .ref q_31, .ref q_33, .ref q_35, .int 0, .ref q_37, .ref q_39, .ref q_41, .ref q_43, .ref q_45, .ref q_47, .ref q_49, .ref q_51, .ref q_53, .ref q_55, .ref q_57, .int 0, .ref q_59, .ref q_61, .ref q_63, .int (-1), .int 0, .int 0, .int 0, .int 0, .ref q_65, .int 0, .ref q_68, .int 0, .int (-1), .int 0, .int 0, .ref q_70, .ref q_72])), (q_68, .inl (cA_69, 8192, .inl g0_2003))]) [0, 1] (by decide) rfl
  have hKc := hK.sub (tys' := [(cA_69, .byte)]) [0] rfl
  have hFc := va_free (wc := [(h0, .inr (16, [.ref q_1, .ref q_12, .ref q_17, .ref q_22, .ref q_24, .ref q_26, .ref q_28, .ref q_29, .ref q_31, .ref q_33, .ref q_35, .int 0, .ref q_37, .ref q_39, .ref q_41, .ref q_43, .ref q_45, .ref q_47, .ref q_49, .ref q_51, .ref q_53, .ref q_55, .ref q_57, .int 0, .ref q_59, .ref q_61, .ref q_63, .int (-1), .int 0, .int 0, .int 0, .int 0, .ref q_65, .int 0, .ref q_68, .int 0, .int (-1), .int 0, .int 0, .ref q_70, .ref q_72])), (q_68, .inl (cA_69, 8192, .inl g0_2003))]) hD hS hA [0, 1] rfl
  refine va_callv (va_runV (As := [.int p3, .int 12]) (rest := []) ⟨hx, hb, hml, hown, hts⟩ (c_X19_word12 l dC dI h0 q_1 q_12 q_17 q_22 q_24 q_26 q_28 q_29 q_31 q_33 q_35 q_37 q_39 q_41 q_43 q_45 q_47 q_49 q_51 q_53 q_55 q_57 q_59 q_61 q_63 q_65 q_68 q_70 q_72 cA_69 g0_2003 p3 H.size) (cwV 2 hts g_X19_feed_X19_word12 rfl rfl rfl (by decide +kernel) ⟨(Nat.le_of_ble_eq_true rfl), (Nat.le_of_ble_eq_true rfl)⟩) ⟨fun a U g mk q => by obtain ⟨q0, q1, qP, qK, qD⟩ := q; exact ⟨q0, q1, qP, va_K.moved (u := U) (U := U.calling g mk a) (Vm.Alike.refl U.vm) qK, qD⟩, va_recv hKc hPc (ci := 16) (q0 := 0) rfl rfl, fun U hU hW => ⟨rfl, by rw [hU], by rw [hU]; exact hPc, va_K.moved hW.alike hKc, hDc.weaken (fun _ _ _ _ => trivial)⟩⟩ rfl rfl hl.1 rfl (lv_room (Nat.le_of_ble_eq_true rfl)) dX19_feed_66 ⟨(Nat.le_of_ble_eq_true rfl), (Nat.le_of_ble_eq_true rfl)⟩) hS (fun q _ h => hFc q h) hFc (fun  u t H1 locs ht hvm hw hB hz1 hk1 hS => ?_)
  obtain ⟨g0_2004, hP1, hK1, hD1⟩ := hB
  rw [ht] at hP1
  have hK1 := va_K.moved hvm.symm hK1
  obtain ⟨hP, hD⟩ := va_join (wr := []) (w1 := [(h0, .inr (16, [.ref q_1, .ref q_12, .ref q_17, .ref q_22, .ref q_24, .ref q_26, .ref q_28, .ref q_29, .ref q_31, .ref q_33, .ref q_35, .int 0, .ref q_37, .ref q_39, .ref q_41, .ref q_43, .ref q_45, .ref q_47, .ref q_49, .ref q_51, .ref q_53, .ref q_55, .ref q_57, .int 0, .ref q_59, .ref q_61, .ref q_63, .int (-1), .int 0, .int 0, .int 0, .int 0, .ref q_65, .int 0, .ref q_68, .int 0, .int (-1), .int 0, .int 0, .ref q_70, .ref q_72])), (q_68, .inl (cA_69, 8192, .inl g0_2004))]) hP hD [0, 1] [] rfl rfl (by decide) (by decide) hk1 hFc hP1 hD1
  have hK := (hK.sub (tys' := []) [] rfl).app hK1
  generalize H1 = H at hP hS ⊢
  have hP : va_P (dC, dI) vwP [(h0, .inr (16, [.ref q_1, .ref q_12, .ref q_17, .ref q_22, .ref q_24, .ref q_26, .ref q_28, .ref q_29, .ref q_31, .ref q_33, .ref q_35, .int 0, .ref q_37, .ref q_39, .ref q_41, .ref q_43, .ref q_45, .ref q_47, .ref q_49, .ref q_51, .ref q_53, .ref q_55, .ref q_57, .int 0, .ref q_59, .ref q_61, .ref q_63, .int (-1), .int 0, .int 0, .int 0, .int 0, .ref q_65, .int 0, .ref q_68, .int 0, .int (-1), .int 0, .int 0, .ref q_70, .ref q_72])), (q_68, .inl (cA_69, 8192, .inl g0_2004))] H := hP
  have hD : va_D A [(h0, .inr (16, [.ref q_1, .ref q_12, .ref q_17, .ref q_22, .ref q_24, .ref q_26, .ref q_28, .ref q_29, .ref q_31, .ref q_33, .ref q_35, .int 0, .ref q_37, .ref q_39, .ref q_41, .ref q_43, .ref q_45, .ref q_47, .ref q_49, .ref q_51, .ref q_53, .ref q_55, .ref q_57, .int 0, .ref q_59, .ref q_61, .ref q_63, .int (-1), .int 0, .int 0, .int 0, .int 0, .ref q_65, .int 0, .ref q_68, .int 0, .int (-1), .int 0, .int 0, .ref q_70, .ref q_72])), (q_68, .inl (cA_69, 8192, .inl g0_2004))] := hD
  have hK : va_K (dC, dI) vwP [(cA_69, .byte)] s := hK
  refine W.widen (k := 0) (n := 0) (Nat.le_of_ble_eq_true rfl) (Nat.le_of_ble_eq_true rfl) ?_
  refine lv_aload_n hx hb dX19_feed_69 rfl (lv_at hl 0 rfl) ?_
  refine lv_iload hx hb dX19_feed_70 (lv_at hl 5 rfl) ?_
  refine lv_aload_n hx hb dX19_feed_72 rfl (lv_at hl 0 rfl) ?_
  refine va_get (D := (dC, dI)) (ci := 16) (v := .int 0) (C := RX19) (T := TX19) (N := 41) hx hb hts mem_X19_feed_0 hown hK hP 0 rfl rfl 35 (by decide) (ow (k := 1) rfl) (fun _ h9 => h9) rfl dX19_feed_73 ?_
  refine lv_bipush (v := 16) hx hb dX19_feed_76 (by decide) ?_
  refine lv_iadd hx hb dX19_feed_78 ?_
  refine lv_topi (fun z ez => ?_)
  obtain rfl : z = 16 := by rw [ez]; decide
  have hPc := hP.sub (ws' := [(h0, .inr (16, [.ref q_1, .ref q_12, .ref q_17, .ref q_22, .ref q_24, .ref q_26, .ref q_28, .ref q_29, .ref q_31, .ref q_33, .ref q_35, .int 0, .ref q_37, .ref q_39, .ref q_41, .ref q_43, .ref q_45, .ref q_47, .ref q_49, .ref q_51, .ref q_53, .ref q_55, .ref q_57, .int 0, .ref q_59, .ref q_61, .ref q_63, .int (-1), .int 0, .int 0, .int 0, .int 0, .ref q_65, .int 0, .ref q_68, .int 0, .int (-1), .int 0, .int 0, .ref q_70, .ref q_72])), (q_68, .inl (cA_69, 8192, .inl g0_2004))]) [0, 1] rfl
  have hDc := hD.sub (ws' := [(h0, .inr (16, [.ref q_1, .ref q_12, .ref q_17, .ref q_22, .ref q_24, .ref q_26, .ref q_28, .ref q_29, .ref q_31, .ref q_33, .ref q_35, .int 0, .ref q_37, .ref q_39, .ref q_41, .ref q_43, .ref q_45, .ref q_47, .ref q_49, .ref q_51, .ref q_53, .ref q_55, .ref q_57, .int 0, .ref q_59, .ref q_61, .ref q_63, .int (-1), .int 0, .int 0, .int 0, .int 0, .ref q_65, .int 0, .ref q_68, .int 0, .int (-1), .int 0, .int 0, .ref q_70, .ref q_72])), (q_68, .inl (cA_69, 8192, .inl g0_2004))]) [0, 1] (by decide) rfl
  have hKc := hK.sub (tys' := [(cA_69, .byte)]) [0] rfl
  have hFc := va_free (wc := [(h0, .inr (16, [.ref q_1, .ref q_12, .ref q_17, .ref q_22, .ref q_24, .ref q_26, .ref q_28, .ref q_29, .ref q_31, .ref q_33, .ref q_35, .int 0, .ref q_37, .ref q_39, .ref q_41, .ref q_43, .ref q_45, .ref q_47, .ref q_49, .ref q_51, .ref q_53, .ref q_55, .ref q_57, .int 0, .ref q_59, .ref q_61, .ref q_63, .int (-1), .int 0, .int 0, .int 0, .int 0, .ref q_65, .int 0, .ref q_68, .int 0, .int (-1), .int 0, .int 0, .ref q_70, .ref q_72])), (q_68, .inl (cA_69, 8192, .inl g0_2004))]) hD hS hA [0, 1] rfl
  refine va_callv (va_runV (As := [.int p4, .int 16]) (rest := []) ⟨hx, hb, hml, hown, hts⟩ (c_X19_word16 l dC dI h0 q_1 q_12 q_17 q_22 q_24 q_26 q_28 q_29 q_31 q_33 q_35 q_37 q_39 q_41 q_43 q_45 q_47 q_49 q_51 q_53 q_55 q_57 q_59 q_61 q_63 q_65 q_68 q_70 q_72 cA_69 g0_2004 p4 H.size) (cwV 2 hts g_X19_feed_X19_word16 rfl rfl rfl (by decide +kernel) ⟨(Nat.le_of_ble_eq_true rfl), (Nat.le_of_ble_eq_true rfl)⟩) ⟨fun a U g mk q => by obtain ⟨q0, q1, qP, qK, qD⟩ := q; exact ⟨q0, q1, qP, va_K.moved (u := U) (U := U.calling g mk a) (Vm.Alike.refl U.vm) qK, qD⟩, va_recv hKc hPc (ci := 16) (q0 := 0) rfl rfl, fun U hU hW => ⟨rfl, by rw [hU], by rw [hU]; exact hPc, va_K.moved hW.alike hKc, hDc.weaken (fun _ _ _ _ => trivial)⟩⟩ rfl rfl hl.1 rfl (lv_room (Nat.le_of_ble_eq_true rfl)) dX19_feed_79 ⟨(Nat.le_of_ble_eq_true rfl), (Nat.le_of_ble_eq_true rfl)⟩) hS (fun q _ h => hFc q h) hFc (fun  u t H1 locs ht hvm hw hB hz1 hk1 hS => ?_)
  obtain ⟨g0_2005, hP1, hK1, hD1⟩ := hB
  rw [ht] at hP1
  have hK1 := va_K.moved hvm.symm hK1
  obtain ⟨hP, hD⟩ := va_join (wr := []) (w1 := [(h0, .inr (16, [.ref q_1, .ref q_12, .ref q_17, .ref q_22, .ref q_24, .ref q_26, .ref q_28, .ref q_29, .ref q_31, .ref q_33, .ref q_35, .int 0, .ref q_37, .ref q_39, .ref q_41, .ref q_43, .ref q_45, .ref q_47, .ref q_49, .ref q_51, .ref q_53, .ref q_55, .ref q_57, .int 0, .ref q_59, .ref q_61, .ref q_63, .int (-1), .int 0, .int 0, .int 0, .int 0, .ref q_65, .int 0, .ref q_68, .int 0, .int (-1), .int 0, .int 0, .ref q_70, .ref q_72])), (q_68, .inl (cA_69, 8192, .inl g0_2005))]) hP hD [0, 1] [] rfl rfl (by decide) (by decide) hk1 hFc hP1 hD1
  have hK := (hK.sub (tys' := []) [] rfl).app hK1
  generalize H1 = H at hP hS ⊢
  have hP : va_P (dC, dI) vwP [(h0, .inr (16, [.ref q_1, .ref q_12, .ref q_17, .ref q_22, .ref q_24, .ref q_26, .ref q_28, .ref q_29, .ref q_31, .ref q_33, .ref q_35, .int 0, .ref q_37, .ref q_39, .ref q_41, .ref q_43, .ref q_45, .ref q_47, .ref q_49, .ref q_51, .ref q_53, .ref q_55, .ref q_57, .int 0, .ref q_59, .ref q_61, .ref q_63, .int (-1), .int 0, .int 0, .int 0, .int 0, .ref q_65, .int 0, .ref q_68, .int 0, .int (-1), .int 0, .int 0, .ref q_70, .ref q_72])), (q_68, .inl (cA_69, 8192, .inl g0_2005))] H := hP
  have hD : va_D A [(h0, .inr (16, [.ref q_1, .ref q_12, .ref q_17, .ref q_22, .ref q_24, .ref q_26, .ref q_28, .ref q_29, .ref q_31, .ref q_33, .ref q_35, .int 0, .ref q_37, .ref q_39, .ref q_41, .ref q_43, .ref q_45, .ref q_47, .ref q_49, .ref q_51, .ref q_53, .ref q_55, .ref q_57, .int 0, .ref q_59, .ref q_61, .ref q_63, .int (-1), .int 0, .int 0, .int 0, .int 0, .ref q_65, .int 0, .ref q_68, .int 0, .int (-1), .int 0, .int 0, .ref q_70, .ref q_72])), (q_68, .inl (cA_69, 8192, .inl g0_2005))] := hD
  have hK : va_K (dC, dI) vwP [(cA_69, .byte)] s := hK
  refine W.widen (k := 0) (n := 0) (Nat.le_of_ble_eq_true rfl) (Nat.le_of_ble_eq_true rfl) ?_
  refine lv_aload_n hx hb dX19_feed_82 rfl (lv_at hl 0 rfl) ?_
  refine lv_dup hx hb dX19_feed_83 rfl ?_
  refine va_get (D := (dC, dI)) (ci := 16) (v := .int 0) (C := RX19) (T := TX19) (N := 41) hx hb hts mem_X19_feed_0 hown hK hP 0 rfl rfl 35 (by decide) (ow (k := 1) rfl) (fun _ h9 => h9) rfl dX19_feed_84 ?_
  refine lv_bipush (v := 20) hx hb dX19_feed_87 (by decide) ?_
  refine lv_iadd hx hb dX19_feed_89 ?_
  refine lv_topi (fun z ez => ?_)
  obtain rfl : z = 20 := by rw [ez]; decide
  refine va_put (D := (dC, dI)) (ci := 16) (v := .int 20) (ty := .int) (C := RX19) (T := TX19) (N := 41) hx hb hts mem_X19_feed_0 tyX19 tyX19_ok nmX19 hown hK hP hD hS 0 rfl rfl 35 (by decide) (ow (k := 1) rfl) (fun _ h9 => h9) rfl (by decide +kernel) rfl rfl (Nat.le_of_ble_eq_true rfl) dX19_feed_90 (fun H locs hP hD hS => ?_)
  have hP : va_P (dC, dI) vwP [(h0, .inr (16, [.ref q_1, .ref q_12, .ref q_17, .ref q_22, .ref q_24, .ref q_26, .ref q_28, .ref q_29, .ref q_31, .ref q_33, .ref q_35, .int 0, .ref q_37, .ref q_39, .ref q_41, .ref q_43, .ref q_45, .ref q_47, .ref q_49, .ref q_51, .ref q_53, .ref q_55, .ref q_57, .int 0, .ref q_59, .ref q_61, .ref q_63, .int (-1), .int 0, .int 0, .int 0, .int 0, .ref q_65, .int 0, .ref q_68, .int 20, .int (-1), .int 0, .int 0, .ref q_70, .ref q_72])), (q_68, .inl (cA_69, 8192, .inl g0_2005))] H := hP
  have hD : va_D A [(h0, .inr (16, [.ref q_1, .ref q_12, .ref q_17, .ref q_22, .ref q_24, .ref q_26, .ref q_28, .ref q_29, .ref q_31, .ref q_33, .ref q_35, .int 0, .ref q_37, .ref q_39, .ref q_41, .ref q_43, .ref q_45, .ref q_47, .ref q_49, .ref q_51, .ref q_53, .ref q_55, .ref q_57, .int 0, .ref q_59, .ref q_61, .ref q_63, .int (-1), .int 0, .int 0, .int 0, .int 0, .ref q_65, .int 0, .ref q_68, .int 20, .int (-1), .int 0, .int 0, .ref q_70, .ref q_72])), (q_68, .inl (cA_69, 8192, .inl g0_2005))] := hD
  refine lv_aload_n hx hb dX19_feed_93 rfl (lv_at hl 0 rfl) ?_
  refine va_get (D := (dC, dI)) (ci := 16) (v := .int 20) (C := RX19) (T := TX19) (N := 41) hx hb hts mem_X19_feed_0 hown hK hP 0 rfl rfl 35 (by decide) (ow (k := 1) rfl) (fun _ h9 => h9) rfl dX19_feed_94 ?_
  have hP := hP.sub (ws' := [(h0, .inr (16, [.ref q_1, .ref q_12, .ref q_17, .ref q_22, .ref q_24, .ref q_26, .ref q_28, .ref q_29, .ref q_31, .ref q_33, .ref q_35, .int 0, .ref q_37, .ref q_39, .ref q_41, .ref q_43, .ref q_45, .ref q_47, .ref q_49, .ref q_51, .ref q_53, .ref q_55, .ref q_57, .int 0, .ref q_59, .ref q_61, .ref q_63, .int (-1), .int 0, .int 0, .int 0, .int 0, .ref q_65, .int 0, .ref q_68, .int 20, .int (-1), .int 0, .int 0, .ref q_70, .ref q_72]))]) [0] rfl
  have hD := hD.sub (ws' := [(h0, .inr (16, [.ref q_1, .ref q_12, .ref q_17, .ref q_22, .ref q_24, .ref q_26, .ref q_28, .ref q_29, .ref q_31, .ref q_33, .ref q_35, .int 0, .ref q_37, .ref q_39, .ref q_41, .ref q_43, .ref q_45, .ref q_47, .ref q_49, .ref q_51, .ref q_53, .ref q_55, .ref q_57, .int 0, .ref q_59, .ref q_61, .ref q_63, .int (-1), .int 0, .int 0, .int 0, .int 0, .ref q_65, .int 0, .ref q_68, .int 20, .int (-1), .int 0, .int 0, .ref q_70, .ref q_72]))]) [0] (by decide) rfl
  have hK := hK.sub (tys' := []) [] rfl
  refine W.widen (k := 0) (n := 0) (Nat.le_of_ble_eq_true rfl) (Nat.le_of_ble_eq_true rfl) ?_
  exact W.iret (v := 20) hx hb hr (fun t ht hW => ⟨⟨20, (), rfl, (fun _ => (show 20 = vf_feed by unfold vf_feed; first | rfl | (split <;> first | rfl | (exfalso; omega)))), 0, 20, (-1), 0, q_72, (show kf_feed = 0 by unfold kf_feed; first | rfl | (split <;> first | rfl | (exfalso; omega))).symm, by rw [ht]; exact hP, va_K.moved hW.alike hK, hD⟩, hS.F ht⟩) hS.2.2 dX19_feed_97
theorem dX19_end_0 : decode cX19_end 0 = .ok (.aload_n 0, 1) := by decide +kernel
theorem dX19_end_1 : decode cX19_end 1 = .ok (.iconst 0, 1) := by decide +kernel
theorem dX19_end_2 : decode cX19_end 2 = .ok (.putfield 560, 3) := by decide +kernel
theorem dX19_end_5 : decode cX19_end 5 = .ok (.iload_n 1, 1) := by decide +kernel
theorem dX19_end_6 : decode cX19_end 6 = .ok (.ifCond .lt 11, 3) := by decide +kernel
theorem dX19_end_17 : decode cX19_end 17 = .ok (.aload_n 0, 1) := by decide +kernel
theorem dX19_end_18 : decode cX19_end 18 = .ok (.iconst 1, 1) := by decide +kernel
theorem dX19_end_19 : decode cX19_end 19 = .ok (.invokevirtual 565, 3) := by decide +kernel
theorem dX19_end_22 : decode cX19_end 22 = .ok (.ireturn, 1) := by decide +kernel
theorem dX19_end_9 : decode cX19_end 9 = .ok (.iload_n 1, 1) := by decide +kernel
theorem dX19_end_10 : decode cX19_end 10 = .ok (.aload_n 0, 1) := by decide +kernel
theorem dX19_end_11 : decode cX19_end 11 = .ok (.getfield 563, 3) := by decide +kernel
theorem dX19_end_14 : decode cX19_end 14 = .ok (.if_icmp .le 9, 3) := by decide +kernel
theorem dX19_end_23 : decode cX19_end 23 = .ok (.aload_n 0, 1) := by decide +kernel
theorem dX19_end_24 : decode cX19_end 24 = .ok (.iload_n 1, 1) := by decide +kernel
theorem dX19_end_25 : decode cX19_end 25 = .ok (.putfield 563, 3) := by decide +kernel
theorem dX19_end_28 : decode cX19_end 28 = .ok (.iload_n 1, 1) := by decide +kernel
theorem dX19_end_29 : decode cX19_end 29 = .ok (.ireturn, 1) := by decide +kernel
def o_X19_end : List Cond := [.fieldLink RX19 560 "SsaForgeModel" "thrown" "I", .methodLink RX19 565 yX19_no, .instanceMethod yX19_no, .selects RX19 yX19_no yX19_no, .initialized RX19, .fieldLink RX19 563 "SsaForgeModel" "size" "I"]
def v_X19_end : List Cond := .code yX19_end cX19_end 2 (some .int) :: (o_X19_end ++ (wsX190 ++ (v_X19_no ++ [])))
theorem mow_X19_end : ∀ w ∈ o_X19_end, w ∈ v_X19_end := fun _ h => List.mem_cons_of_mem _ (List.mem_append_left _ h)
theorem mem_X19_end_0 : ∀ w ∈ wsX190, w ∈ v_X19_end := fun _ h => List.mem_cons_of_mem _ (List.mem_append_right _ (List.mem_append_left _ h))
theorem mem_X19_end_1 : ∀ w ∈ v_X19_no, w ∈ v_X19_end := fun _ h => List.mem_cons_of_mem _ (List.mem_append_right _ (List.mem_append_right _ (List.mem_append_left _ h)))
set_option maxRecDepth 20000 in
theorem gw_X19_end : v_X19_end.all goodWord = true := by decide +kernel
set_option maxRecDepth 20000 in
theorem g_X19_end_X19_no : GoodIn v_X19_end (wsV RX19 565 RX19 yX19_no v_X19_no) := goodIn_app (goodIn_sub (fun w h => mow_X19_end w (by revert w h; decide +kernel)) (by decide +kernel)) (goodIn_sub mem_X19_end_1 gw_X19_no)
set_option maxHeartbeats 4000000 in
set_option maxRecDepth 100000 in
theorem c_X19_end (l : Launch) (dC : Nat → ClassId) (dI : Nat → Nat → Nat) (h0 : Nat) (q_1 : Nat) (q_12 : Nat) (q_17 : Nat) (q_22 : Nat) (q_24 : Nat) (q_26 : Nat) (q_28 : Nat) (q_29 : Nat) (q_31 : Nat) (q_33 : Nat) (q_35 : Nat) (q_37 : Nat) (q_39 : Nat) (q_41 : Nat) (q_43 : Nat) (q_45 : Nat) (q_47 : Nat) (q_49 : Nat) (q_51 : Nat) (q_53 : Nat) (q_55 : Nat) (q_57 : Nat) (q_59 : Nat) (q_61 : Nat) (q_63 : Nat) (q_65 : Nat) (q_68 : Nat) (q_70 : Nat) (q_72 : Nat) (p0 : Int32) (sz : Nat) : Met l yX19_end v_X19_end ({ frames := 1, cells := 0, slots := 0, locals := 21 }) (va_Pc [.ref h0, .int p0] (fun U => U.heap.size = sz ∧ va_P (dC, dI) vwP [(h0, .inr (16, [.ref q_1, .ref q_12, .ref q_17, .ref q_22, .ref q_24, .ref q_26, .ref q_28, .ref q_29, .ref q_31, .ref q_33, .ref q_35, .int 0, .ref q_37, .ref q_39, .ref q_41, .ref q_43, .ref q_45, .ref q_47, .ref q_49, .ref q_51, .ref q_53, .ref q_55, .ref q_57, .int 0, .ref q_59, .ref q_61, .ref q_63, .int (-1), .int 0, .int 0, .int 0, .int 0, .ref q_65, .int 0, .ref q_68, .int 0, .int (-1), .int 0, .int 0, .ref q_70, .ref q_72]))] U.heap ∧ va_K (dC, dI) vwP [] U ∧ va_D (fun _ => True) [(h0, .inr (16, [.ref q_1, .ref q_12, .ref q_17, .ref q_22, .ref q_24, .ref q_26, .ref q_28, .ref q_29, .ref q_31, .ref q_33, .ref q_35, .int 0, .ref q_37, .ref q_39, .ref q_41, .ref q_43, .ref q_45, .ref q_47, .ref q_49, .ref q_51, .ref q_53, .ref q_55, .ref q_57, .int 0, .ref q_59, .ref q_61, .ref q_63, .int (-1), .int 0, .int 0, .int 0, .int 0, .ref q_65, .int 0, .ref q_68, .int 0, .int (-1), .int 0, .int 0, .ref q_70, .ref q_72]))])) (va_Qi (fun (r : Int32) (_ : Unit) => kf_end p0 = 0 → r = vf_end p0) (fun (_ : Unit) (t : State) => ∃ (i_33 : Int32) (i_35 : Int32) (i_36 : Int32) (i_37 : Int32) (q_940 : Nat), (i_33 = kf_end p0) ∧ va_P (dC, dI) vwP [(h0, .inr (16, [.ref q_1, .ref q_12, .ref q_17, .ref q_22, .ref q_24, .ref q_26, .ref q_28, .ref q_29, .ref q_31, .ref q_33, .ref q_35, .int 0, .ref q_37, .ref q_39, .ref q_41, .ref q_43, .ref q_45, .ref q_47, .ref q_49, .ref q_51, .ref q_53, .ref q_55, .ref q_57, .int 0, .ref q_59, .ref q_61, .ref q_63, .int (-1), .int 0, .int 0, .int 0, .int 0, .ref q_65, .int i_33, .ref q_68, .int i_35, .int i_36, .int i_37, .int 0, .ref q_70, .ref q_940]))] t.heap ∧ va_K (dC, dI) vwP [] t ∧ va_D (va_A [(h0, .inr (16, [.ref q_1, .ref q_12, .ref q_17, .ref q_22, .ref q_24, .ref q_26, .ref q_28, .ref q_29, .ref q_31, .ref q_33, .ref q_35, .int 0, .ref q_37, .ref q_39, .ref q_41, .ref q_43, .ref q_45, .ref q_47, .ref q_49, .ref q_51, .ref q_53, .ref q_55, .ref q_57, .int 0, .ref q_59, .ref q_61, .ref q_63, .int (-1), .int 0, .int 0, .int 0, .int 0, .ref q_65, .int 0, .ref q_68, .int 0, .int (-1), .int 0, .int 0, .ref q_70, .ref q_72]))] sz) [(h0, .inr (16, [.ref q_1, .ref q_12, .ref q_17, .ref q_22, .ref q_24, .ref q_26, .ref q_28, .ref q_29, .ref q_31, .ref q_33, .ref q_35, .int 0, .ref q_37, .ref q_39, .ref q_41, .ref q_43, .ref q_45, .ref q_47, .ref q_49, .ref q_51, .ref q_53, .ref q_55, .ref q_57, .int 0, .ref q_59, .ref q_61, .ref q_63, .int (-1), .int 0, .int 0, .int 0, .int 0, .ref q_65, .int i_33, .ref q_68, .int i_35, .int i_36, .int i_37, .int 0, .ref q_70, .ref q_940]))]) (va_A [(h0, .inr (16, [.ref q_1, .ref q_12, .ref q_17, .ref q_22, .ref q_24, .ref q_26, .ref q_28, .ref q_29, .ref q_31, .ref q_33, .ref q_35, .int 0, .ref q_37, .ref q_39, .ref q_41, .ref q_43, .ref q_45, .ref q_47, .ref q_49, .ref q_51, .ref q_53, .ref q_55, .ref q_57, .int 0, .ref q_59, .ref q_61, .ref q_63, .int (-1), .int 0, .int 0, .int 0, .int 0, .ref q_65, .int 0, .ref q_68, .int 0, .int (-1), .int 0, .int 0, .ref q_70, .ref q_72]))] sz)) 0 0 (va_A [(h0, .inr (16, [.ref q_1, .ref q_12, .ref q_17, .ref q_22, .ref q_24, .ref q_26, .ref q_28, .ref q_29, .ref q_31, .ref q_33, .ref q_35, .int 0, .ref q_37, .ref q_39, .ref q_41, .ref q_43, .ref q_45, .ref q_47, .ref q_49, .ref q_51, .ref q_53, .ref q_55, .ref q_57, .int 0, .ref q_59, .ref q_61, .ref q_63, .int (-1), .int 0, .int 0, .int 0, .int 0, .ref q_65, .int 0, .ref q_68, .int 0, .int (-1), .int 0, .int 0, .ref q_70, .ref q_72]))] sz) := by
  refine Met.ofW (cc := cX19_end) (maxL := 2) (ret := (some .int)) (by decide) rfl ?_
  intro p e s m args below meth c s₁ B hml hv
  obtain ⟨rfl, hsz, hP, hK, hD0⟩ := hv
  have hx := B.exec
  have hb := B.bytes
  have hr := B.returns
  have hts := atoms_spec (ws := v_X19_end) B.pre
  have hown : s.vm.findClass RX19 = some m.cls := findClass_of_methodNamed B.named
  have hlocks := B.notSynchronized
  have ow : ∀ {k : Nat} {w : Cond}, o_X19_end[k]? = some w → w.before ([.ref h0, .int p0] : List Value).toArray s = true := fun h => hts _ (mow_X19_end _ (List.mem_of_getElem? h))
  subst hsz
  have hD := hD0.self (sz := s.heap.size)
  generalize hAe : va_A [(h0, .inr (16, [.ref q_1, .ref q_12, .ref q_17, .ref q_22, .ref q_24, .ref q_26, .ref q_28, .ref q_29, .ref q_31, .ref q_33, .ref q_35, .int 0, .ref q_37, .ref q_39, .ref q_41, .ref q_43, .ref q_45, .ref q_47, .ref q_49, .ref q_51, .ref q_53, .ref q_55, .ref q_57, .int 0, .ref q_59, .ref q_61, .ref q_63, .int (-1), .int 0, .int 0, .int 0, .int 0, .ref q_65, .int 0, .ref q_68, .int 0, .int (-1), .int 0, .int 0, .ref q_70, .ref q_72]))] s.heap.size = A at hD ⊢
  have hA : ∀ q : Nat, s.heap.size ≤ q → A q := fun q h => by rw [← hAe]; exact Or.inr h
  have hS : va_S A s.heap s.heap [] := va_S.rf
  have hP : va_P (dC, dI) vwP [(h0, .inr (16, [.ref q_1, .ref q_12, .ref q_17, .ref q_22, .ref q_24, .ref q_26, .ref q_28, .ref q_29, .ref q_31, .ref q_33, .ref q_35, .int 0, .ref q_37, .ref q_39, .ref q_41, .ref q_43, .ref q_45, .ref q_47, .ref q_49, .ref q_51, .ref q_53, .ref q_55, .ref q_57, .int 0, .ref q_59, .ref q_61, .ref q_63, .int (-1), .int 0, .int 0, .int 0, .int 0, .ref q_65, .int 0, .ref q_68, .int 0, .int (-1), .int 0, .int 0, .ref q_70, .ref q_72]))] s.heap := hP
  have hl := lv_entry ([.ref h0, .int p0]) (n := 2) (Nat.le_of_ble_eq_true rfl)
  rw [lg_entry_eq]
  generalize (lg_sl ([.ref h0, .int p0]) ++ List.replicate (2 - (lg_sl ([.ref h0, .int p0])).length) Slot.unset).toArray = ls at hl ⊢
  have hl : lv_has ls 2 [(0, .ref h0), (1, .int p0)] := hl
  obtain ⟨H, hH⟩ : ∃ H, H = s.heap := ⟨_, rfl⟩
  rw [← hH] at hP
  have hS : va_S A s.heap H [] := by rw [hH]; exact hS
  rw [← hH]
  refine lv_aload_n hx hb dX19_end_0 rfl (lv_at hl 0 rfl) ?_
  refine lv_iconst (v := 0) hx hb dX19_end_1 (by decide) ?_
  refine va_put (D := (dC, dI)) (ci := 16) (v := .int 0) (ty := .int) (C := RX19) (T := TX19) (N := 41) hx hb hts mem_X19_end_0 tyX19 tyX19_ok nmX19 hown hK hP hD hS 0 rfl rfl 33 (by decide) (ow (k := 0) rfl) (fun _ h9 => h9) rfl (by decide +kernel) rfl rfl (Nat.le_of_ble_eq_true rfl) dX19_end_2 (fun H locs hP hD hS => ?_)
  have hP : va_P (dC, dI) vwP [(h0, .inr (16, [.ref q_1, .ref q_12, .ref q_17, .ref q_22, .ref q_24, .ref q_26, .ref q_28, .ref q_29, .ref q_31, .ref q_33, .ref q_35, .int 0, .ref q_37, .ref q_39, .ref q_41, .ref q_43, .ref q_45, .ref q_47, .ref q_49, .ref q_51, .ref q_53, .ref q_55, .ref q_57, .int 0, .ref q_59, .ref q_61, .ref q_63, .int (-1), .int 0, .int 0, .int 0, .int 0, .ref q_65, .int 0, .ref q_68, .int 0, .int (-1), .int 0, .int 0, .ref q_70, .ref q_72]))] H := hP
  have hD : va_D A [(h0, .inr (16, [.ref q_1, .ref q_12, .ref q_17, .ref q_22, .ref q_24, .ref q_26, .ref q_28, .ref q_29, .ref q_31, .ref q_33, .ref q_35, .int 0, .ref q_37, .ref q_39, .ref q_41, .ref q_43, .ref q_45, .ref q_47, .ref q_49, .ref q_51, .ref q_53, .ref q_55, .ref q_57, .int 0, .ref q_59, .ref q_61, .ref q_63, .int (-1), .int 0, .int 0, .int 0, .int 0, .ref q_65, .int 0, .ref q_68, .int 0, .int (-1), .int 0, .int 0, .ref q_70, .ref q_72]))] := hD
  refine lv_iload_n hx hb dX19_end_5 rfl (lv_at hl 1 rfl) ?_
  refine lv_if_lt (tgt := 17) hx hb dX19_end_6 (by decide) (fun b6 => ?_) (fun b6 => ?_)
  · refine lv_aload_n hx hb dX19_end_17 rfl (lv_at hl 0 rfl) ?_
    refine lv_iconst (v := 1) hx hb dX19_end_18 (by decide) ?_
    have hPc := hP.sub (ws' := [(h0, .inr (16, [.ref q_1, .ref q_12, .ref q_17, .ref q_22, .ref q_24, .ref q_26, .ref q_28, .ref q_29, .ref q_31, .ref q_33, .ref q_35, .int 0, .ref q_37, .ref q_39, .ref q_41, .ref q_43, .ref q_45, .ref q_47, .ref q_49, .ref q_51, .ref q_53, .ref q_55, .ref q_57, .int 0, .ref q_59, .ref q_61, .ref q_63, .int (-1), .int 0, .int 0, .int 0, .int 0, .ref q_65, .int 0, .ref q_68, .int 0, .int (-1), .int 0, .int 0, .ref q_70, .ref q_72]))]) [0] rfl
    have hDc := hD.sub (ws' := [(h0, .inr (16, [.ref q_1, .ref q_12, .ref q_17, .ref q_22, .ref q_24, .ref q_26, .ref q_28, .ref q_29, .ref q_31, .ref q_33, .ref q_35, .int 0, .ref q_37, .ref q_39, .ref q_41, .ref q_43, .ref q_45, .ref q_47, .ref q_49, .ref q_51, .ref q_53, .ref q_55, .ref q_57, .int 0, .ref q_59, .ref q_61, .ref q_63, .int (-1), .int 0, .int 0, .int 0, .int 0, .ref q_65, .int 0, .ref q_68, .int 0, .int (-1), .int 0, .int 0, .ref q_70, .ref q_72]))]) [0] (by decide) rfl
    have hKc := hK.sub (tys' := []) [] rfl
    have hFc := va_free (wc := [(h0, .inr (16, [.ref q_1, .ref q_12, .ref q_17, .ref q_22, .ref q_24, .ref q_26, .ref q_28, .ref q_29, .ref q_31, .ref q_33, .ref q_35, .int 0, .ref q_37, .ref q_39, .ref q_41, .ref q_43, .ref q_45, .ref q_47, .ref q_49, .ref q_51, .ref q_53, .ref q_55, .ref q_57, .int 0, .ref q_59, .ref q_61, .ref q_63, .int (-1), .int 0, .int 0, .int 0, .int 0, .ref q_65, .int 0, .ref q_68, .int 0, .int (-1), .int 0, .int 0, .ref q_70, .ref q_72]))]) hD hS hA [0] rfl
    refine va_calli (va_runV (As := [.int 1]) (rest := []) ⟨hx, hb, hml, hown, hts⟩ (c_X19_no l dC dI h0 q_1 q_12 q_17 q_22 q_24 q_26 q_28 q_29 q_31 q_33 q_35 q_37 q_39 q_41 q_43 q_45 q_47 q_49 q_51 q_53 q_55 q_57 q_59 q_61 q_63 q_65 q_68 q_70 q_72 1 H.size) (cwV 1 hts g_X19_end_X19_no rfl rfl rfl (by decide +kernel) ⟨(Nat.le_of_ble_eq_true rfl), (Nat.le_of_ble_eq_true rfl)⟩) ⟨fun a U g mk q => by obtain ⟨q0, q1, qP, qK, qD⟩ := q; exact ⟨q0, q1, qP, va_K.moved (u := U) (U := U.calling g mk a) (Vm.Alike.refl U.vm) qK, qD⟩, va_recv hKc hPc (ci := 16) (q0 := 0) rfl rfl, fun U hU hW => ⟨rfl, by rw [hU], by rw [hU]; exact hPc, va_K.moved hW.alike hKc, hDc.weaken (fun _ _ _ _ => trivial)⟩⟩ rfl rfl hl.1 rfl (lv_room (Nat.le_of_ble_eq_true rfl)) dX19_end_19 ⟨(Nat.le_of_ble_eq_true rfl), (Nat.le_of_ble_eq_true rfl)⟩) hS (fun q _ h => hFc q h) hFc (fun r_2001 u t H1 locs ht hvm hw hB hz1 hk1 hS => ?_)
    obtain ⟨hP1, hK1, hD1⟩ := hB
    rw [ht] at hP1
    have hK1 := va_K.moved hvm.symm hK1
    obtain ⟨hP, hD⟩ := va_join (wr := []) (w1 := [(h0, .inr (16, [.ref q_1, .ref q_12, .ref q_17, .ref q_22, .ref q_24, .ref q_26, .ref q_28, .ref q_29, .ref q_31, .ref q_33, .ref q_35, .int 0, .ref q_37, .ref q_39, .ref q_41, .ref q_43, .ref q_45, .ref q_47, .ref q_49, .ref q_51, .ref q_53, .ref q_55, .ref q_57, .int 0, .ref q_59, .ref q_61, .ref q_63, .int (-1), .int 0, .int 0, .int 0, .int 0, .ref q_65, .int 1, .ref q_68, .int 0, .int (-1), .int 0, .int 0, .ref q_70, .ref q_72]))]) hP hD [0] [] rfl rfl (by decide) (by decide) hk1 hFc hP1 hD1
    have hK := (hK.sub (tys' := []) [] rfl).app hK1
    generalize H1 = H at hP hS ⊢
    have hP : va_P (dC, dI) vwP [(h0, .inr (16, [.ref q_1, .ref q_12, .ref q_17, .ref q_22, .ref q_24, .ref q_26, .ref q_28, .ref q_29, .ref q_31, .ref q_33, .ref q_35, .int 0, .ref q_37, .ref q_39, .ref q_41, .ref q_43, .ref q_45, .ref q_47, .ref q_49, .ref q_51, .ref q_53, .ref q_55, .ref q_57, .int 0, .ref q_59, .ref q_61, .ref q_63, .int (-1), .int 0, .int 0, .int 0, .int 0, .ref q_65, .int 1, .ref q_68, .int 0, .int (-1), .int 0, .int 0, .ref q_70, .ref q_72]))] H := hP
    have hD : va_D A [(h0, .inr (16, [.ref q_1, .ref q_12, .ref q_17, .ref q_22, .ref q_24, .ref q_26, .ref q_28, .ref q_29, .ref q_31, .ref q_33, .ref q_35, .int 0, .ref q_37, .ref q_39, .ref q_41, .ref q_43, .ref q_45, .ref q_47, .ref q_49, .ref q_51, .ref q_53, .ref q_55, .ref q_57, .int 0, .ref q_59, .ref q_61, .ref q_63, .int (-1), .int 0, .int 0, .int 0, .int 0, .ref q_65, .int 1, .ref q_68, .int 0, .int (-1), .int 0, .int 0, .ref q_70, .ref q_72]))] := hD
    have hK : va_K (dC, dI) vwP [] s := hK
    refine W.widen (k := 0) (n := 0) (Nat.le_of_ble_eq_true rfl) (Nat.le_of_ble_eq_true rfl) ?_
    obtain rfl : r_2001 = 0 := hw
    have zb6 : p0.toInt < 0 := z_lt b6
    refine W.widen (k := 0) (n := 0) (Nat.le_of_ble_eq_true rfl) (Nat.le_of_ble_eq_true rfl) ?_
    exact W.iret (v := 0) hx hb hr (fun t ht hW => ⟨⟨0, (), rfl, (fun h9 => absurd ((show kf_end p0 = 1 by unfold kf_end; first | rfl | (split <;> first | rfl | (exfalso; omega))).symm.trans h9) (by decide)), 1, 0, (-1), 0, q_72, (show kf_end p0 = 1 by unfold kf_end; first | rfl | (split <;> first | rfl | (exfalso; omega))).symm, by rw [ht]; exact hP, va_K.moved hW.alike hK, hD⟩, hS.F ht⟩) hS.2.2 dX19_end_22
  · refine lv_iload_n hx hb dX19_end_9 rfl (lv_at hl 1 rfl) ?_
    refine lv_aload_n hx hb dX19_end_10 rfl (lv_at hl 0 rfl) ?_
    refine va_get (D := (dC, dI)) (ci := 16) (v := .int 0) (C := RX19) (T := TX19) (N := 41) hx hb hts mem_X19_end_0 hown hK hP 0 rfl rfl 35 (by decide) (ow (k := 5) rfl) (fun _ h9 => h9) rfl dX19_end_11 ?_
    refine lv_icmp_le (tgt := 23) hx hb dX19_end_14 (by decide) (fun b14 => ?_) (fun b14 => ?_)
    · refine lv_aload_n hx hb dX19_end_23 rfl (lv_at hl 0 rfl) ?_
      refine lv_iload_n hx hb dX19_end_24 rfl (lv_at hl 1 rfl) ?_
      refine va_put (D := (dC, dI)) (ci := 16) (v := .int p0) (ty := .int) (C := RX19) (T := TX19) (N := 41) hx hb hts mem_X19_end_0 tyX19 tyX19_ok nmX19 hown hK hP hD hS 0 rfl rfl 35 (by decide) (ow (k := 5) rfl) (fun _ h9 => h9) rfl (by decide +kernel) rfl rfl (Nat.le_of_ble_eq_true rfl) dX19_end_25 (fun H locs hP hD hS => ?_)
      have hP : va_P (dC, dI) vwP [(h0, .inr (16, [.ref q_1, .ref q_12, .ref q_17, .ref q_22, .ref q_24, .ref q_26, .ref q_28, .ref q_29, .ref q_31, .ref q_33, .ref q_35, .int 0, .ref q_37, .ref q_39, .ref q_41, .ref q_43, .ref q_45, .ref q_47, .ref q_49, .ref q_51, .ref q_53, .ref q_55, .ref q_57, .int 0, .ref q_59, .ref q_61, .ref q_63, .int (-1), .int 0, .int 0, .int 0, .int 0, .ref q_65, .int 0, .ref q_68, .int p0, .int (-1), .int 0, .int 0, .ref q_70, .ref q_72]))] H := hP
      have hD : va_D A [(h0, .inr (16, [.ref q_1, .ref q_12, .ref q_17, .ref q_22, .ref q_24, .ref q_26, .ref q_28, .ref q_29, .ref q_31, .ref q_33, .ref q_35, .int 0, .ref q_37, .ref q_39, .ref q_41, .ref q_43, .ref q_45, .ref q_47, .ref q_49, .ref q_51, .ref q_53, .ref q_55, .ref q_57, .int 0, .ref q_59, .ref q_61, .ref q_63, .int (-1), .int 0, .int 0, .int 0, .int 0, .ref q_65, .int 0, .ref q_68, .int p0, .int (-1), .int 0, .int 0, .ref q_70, .ref q_72]))] := hD
      refine lv_iload_n hx hb dX19_end_28 rfl (lv_at hl 1 rfl) ?_
      have zb6 : 0 ≤ p0.toInt := z_nlt b6
      have zb14 : p0.toInt ≤ 0 := z_le b14
      refine W.widen (k := 0) (n := 0) (Nat.le_of_ble_eq_true rfl) (Nat.le_of_ble_eq_true rfl) ?_
      exact W.iret (v := p0) hx hb hr (fun t ht hW => ⟨⟨p0, (), rfl, (fun _ => (show p0 = vf_end p0 by unfold vf_end; first | rfl | (split <;> first | rfl | (exfalso; omega)))), 0, p0, (-1), 0, q_72, (show kf_end p0 = 0 by unfold kf_end; first | rfl | (split <;> first | rfl | (exfalso; omega))).symm, by rw [ht]; exact hP, va_K.moved hW.alike hK, hD⟩, hS.F ht⟩) hS.2.2 dX19_end_29
    · refine lv_aload_n hx hb dX19_end_17 rfl (lv_at hl 0 rfl) ?_
      refine lv_iconst (v := 1) hx hb dX19_end_18 (by decide) ?_
      have hPc := hP.sub (ws' := [(h0, .inr (16, [.ref q_1, .ref q_12, .ref q_17, .ref q_22, .ref q_24, .ref q_26, .ref q_28, .ref q_29, .ref q_31, .ref q_33, .ref q_35, .int 0, .ref q_37, .ref q_39, .ref q_41, .ref q_43, .ref q_45, .ref q_47, .ref q_49, .ref q_51, .ref q_53, .ref q_55, .ref q_57, .int 0, .ref q_59, .ref q_61, .ref q_63, .int (-1), .int 0, .int 0, .int 0, .int 0, .ref q_65, .int 0, .ref q_68, .int 0, .int (-1), .int 0, .int 0, .ref q_70, .ref q_72]))]) [0] rfl
      have hDc := hD.sub (ws' := [(h0, .inr (16, [.ref q_1, .ref q_12, .ref q_17, .ref q_22, .ref q_24, .ref q_26, .ref q_28, .ref q_29, .ref q_31, .ref q_33, .ref q_35, .int 0, .ref q_37, .ref q_39, .ref q_41, .ref q_43, .ref q_45, .ref q_47, .ref q_49, .ref q_51, .ref q_53, .ref q_55, .ref q_57, .int 0, .ref q_59, .ref q_61, .ref q_63, .int (-1), .int 0, .int 0, .int 0, .int 0, .ref q_65, .int 0, .ref q_68, .int 0, .int (-1), .int 0, .int 0, .ref q_70, .ref q_72]))]) [0] (by decide) rfl
      have hKc := hK.sub (tys' := []) [] rfl
      have hFc := va_free (wc := [(h0, .inr (16, [.ref q_1, .ref q_12, .ref q_17, .ref q_22, .ref q_24, .ref q_26, .ref q_28, .ref q_29, .ref q_31, .ref q_33, .ref q_35, .int 0, .ref q_37, .ref q_39, .ref q_41, .ref q_43, .ref q_45, .ref q_47, .ref q_49, .ref q_51, .ref q_53, .ref q_55, .ref q_57, .int 0, .ref q_59, .ref q_61, .ref q_63, .int (-1), .int 0, .int 0, .int 0, .int 0, .ref q_65, .int 0, .ref q_68, .int 0, .int (-1), .int 0, .int 0, .ref q_70, .ref q_72]))]) hD hS hA [0] rfl
      refine va_calli (va_runV (As := [.int 1]) (rest := []) ⟨hx, hb, hml, hown, hts⟩ (c_X19_no l dC dI h0 q_1 q_12 q_17 q_22 q_24 q_26 q_28 q_29 q_31 q_33 q_35 q_37 q_39 q_41 q_43 q_45 q_47 q_49 q_51 q_53 q_55 q_57 q_59 q_61 q_63 q_65 q_68 q_70 q_72 1 H.size) (cwV 1 hts g_X19_end_X19_no rfl rfl rfl (by decide +kernel) ⟨(Nat.le_of_ble_eq_true rfl), (Nat.le_of_ble_eq_true rfl)⟩) ⟨fun a U g mk q => by obtain ⟨q0, q1, qP, qK, qD⟩ := q; exact ⟨q0, q1, qP, va_K.moved (u := U) (U := U.calling g mk a) (Vm.Alike.refl U.vm) qK, qD⟩, va_recv hKc hPc (ci := 16) (q0 := 0) rfl rfl, fun U hU hW => ⟨rfl, by rw [hU], by rw [hU]; exact hPc, va_K.moved hW.alike hKc, hDc.weaken (fun _ _ _ _ => trivial)⟩⟩ rfl rfl hl.1 rfl (lv_room (Nat.le_of_ble_eq_true rfl)) dX19_end_19 ⟨(Nat.le_of_ble_eq_true rfl), (Nat.le_of_ble_eq_true rfl)⟩) hS (fun q _ h => hFc q h) hFc (fun r_2002 u t H1 locs ht hvm hw hB hz1 hk1 hS => ?_)
      obtain ⟨hP1, hK1, hD1⟩ := hB
      rw [ht] at hP1
      have hK1 := va_K.moved hvm.symm hK1
      obtain ⟨hP, hD⟩ := va_join (wr := []) (w1 := [(h0, .inr (16, [.ref q_1, .ref q_12, .ref q_17, .ref q_22, .ref q_24, .ref q_26, .ref q_28, .ref q_29, .ref q_31, .ref q_33, .ref q_35, .int 0, .ref q_37, .ref q_39, .ref q_41, .ref q_43, .ref q_45, .ref q_47, .ref q_49, .ref q_51, .ref q_53, .ref q_55, .ref q_57, .int 0, .ref q_59, .ref q_61, .ref q_63, .int (-1), .int 0, .int 0, .int 0, .int 0, .ref q_65, .int 1, .ref q_68, .int 0, .int (-1), .int 0, .int 0, .ref q_70, .ref q_72]))]) hP hD [0] [] rfl rfl (by decide) (by decide) hk1 hFc hP1 hD1
      have hK := (hK.sub (tys' := []) [] rfl).app hK1
      generalize H1 = H at hP hS ⊢
      have hP : va_P (dC, dI) vwP [(h0, .inr (16, [.ref q_1, .ref q_12, .ref q_17, .ref q_22, .ref q_24, .ref q_26, .ref q_28, .ref q_29, .ref q_31, .ref q_33, .ref q_35, .int 0, .ref q_37, .ref q_39, .ref q_41, .ref q_43, .ref q_45, .ref q_47, .ref q_49, .ref q_51, .ref q_53, .ref q_55, .ref q_57, .int 0, .ref q_59, .ref q_61, .ref q_63, .int (-1), .int 0, .int 0, .int 0, .int 0, .ref q_65, .int 1, .ref q_68, .int 0, .int (-1), .int 0, .int 0, .ref q_70, .ref q_72]))] H := hP
      have hD : va_D A [(h0, .inr (16, [.ref q_1, .ref q_12, .ref q_17, .ref q_22, .ref q_24, .ref q_26, .ref q_28, .ref q_29, .ref q_31, .ref q_33, .ref q_35, .int 0, .ref q_37, .ref q_39, .ref q_41, .ref q_43, .ref q_45, .ref q_47, .ref q_49, .ref q_51, .ref q_53, .ref q_55, .ref q_57, .int 0, .ref q_59, .ref q_61, .ref q_63, .int (-1), .int 0, .int 0, .int 0, .int 0, .ref q_65, .int 1, .ref q_68, .int 0, .int (-1), .int 0, .int 0, .ref q_70, .ref q_72]))] := hD
      have hK : va_K (dC, dI) vwP [] s := hK
      refine W.widen (k := 0) (n := 0) (Nat.le_of_ble_eq_true rfl) (Nat.le_of_ble_eq_true rfl) ?_
      obtain rfl : r_2002 = 0 := hw
      have zb6 : 0 ≤ p0.toInt := z_nlt b6
      have zb14 : 0 < p0.toInt := z_nle b14
      refine W.widen (k := 0) (n := 0) (Nat.le_of_ble_eq_true rfl) (Nat.le_of_ble_eq_true rfl) ?_
      exact W.iret (v := 0) hx hb hr (fun t ht hW => ⟨⟨0, (), rfl, (fun h9 => absurd ((show kf_end p0 = 1 by unfold kf_end; first | rfl | (split <;> first | rfl | (exfalso; omega))).symm.trans h9) (by decide)), 1, 0, (-1), 0, q_72, (show kf_end p0 = 1 by unfold kf_end; first | rfl | (split <;> first | rfl | (exfalso; omega))).symm, by rw [ht]; exact hP, va_K.moved hW.alike hK, hD⟩, hS.F ht⟩) hS.2.2 dX19_end_22
theorem dX19_ssa_0 : decode cX19_ssa 0 = .ok (.aload_n 0, 1) := by decide +kernel
theorem dX19_ssa_1 : decode cX19_ssa 1 = .ok (.iconst 0, 1) := by decide +kernel
theorem dX19_ssa_2 : decode cX19_ssa 2 = .ok (.putfield 560, 3) := by decide +kernel
theorem dX19_ssa_5 : decode cX19_ssa 5 = .ok (.aload_n 0, 1) := by decide +kernel
theorem dX19_ssa_6 : decode cX19_ssa 6 = .ok (.getfield 555, 3) := by decide +kernel
theorem dX19_ssa_9 : decode cX19_ssa 9 = .ok (.ifCond .eq 9, 3) := by decide +kernel
theorem dX19_ssa_12 : decode cX19_ssa 12 = .ok (.aload_n 0, 1) := by decide +kernel
theorem dX19_ssa_13 : decode cX19_ssa 13 = .ok (.iconst 1, 1) := by decide +kernel
theorem dX19_ssa_14 : decode cX19_ssa 14 = .ok (.invokevirtual 565, 3) := by decide +kernel
theorem dX19_ssa_17 : decode cX19_ssa 17 = .ok (.ireturn, 1) := by decide +kernel
def o_X19_ssa : List Cond := [.fieldLink RX19 560 "SsaForgeModel" "thrown" "I", .fieldLink RX19 555 "SsaForgeModel" "form" "I", .methodLink RX19 565 yX19_no, .instanceMethod yX19_no, .selects RX19 yX19_no yX19_no, .initialized RX19]
def v_X19_ssa : List Cond := .code yX19_ssa cX19_ssa 1 (some .int) :: (o_X19_ssa ++ (wsX190 ++ (v_X19_no ++ [])))
theorem mow_X19_ssa : ∀ w ∈ o_X19_ssa, w ∈ v_X19_ssa := fun _ h => List.mem_cons_of_mem _ (List.mem_append_left _ h)
theorem mem_X19_ssa_0 : ∀ w ∈ wsX190, w ∈ v_X19_ssa := fun _ h => List.mem_cons_of_mem _ (List.mem_append_right _ (List.mem_append_left _ h))
theorem mem_X19_ssa_1 : ∀ w ∈ v_X19_no, w ∈ v_X19_ssa := fun _ h => List.mem_cons_of_mem _ (List.mem_append_right _ (List.mem_append_right _ (List.mem_append_left _ h)))
set_option maxRecDepth 20000 in
theorem gw_X19_ssa : v_X19_ssa.all goodWord = true := by decide +kernel
set_option maxRecDepth 20000 in
theorem g_X19_ssa_X19_no : GoodIn v_X19_ssa (wsV RX19 565 RX19 yX19_no v_X19_no) := goodIn_app (goodIn_sub (fun w h => mow_X19_ssa w (by revert w h; decide +kernel)) (by decide +kernel)) (goodIn_sub mem_X19_ssa_1 gw_X19_no)
set_option maxHeartbeats 4000000 in
set_option maxRecDepth 100000 in
theorem c_X19_ssa (l : Launch) (dC : Nat → ClassId) (dI : Nat → Nat → Nat) (h0 : Nat) (q_1 : Nat) (q_12 : Nat) (q_17 : Nat) (q_22 : Nat) (q_24 : Nat) (q_26 : Nat) (q_28 : Nat) (q_29 : Nat) (q_31 : Nat) (q_33 : Nat) (q_35 : Nat) (q_37 : Nat) (q_39 : Nat) (q_41 : Nat) (q_43 : Nat) (q_45 : Nat) (q_47 : Nat) (q_49 : Nat) (q_51 : Nat) (q_53 : Nat) (q_55 : Nat) (q_57 : Nat) (q_59 : Nat) (q_61 : Nat) (q_63 : Nat) (q_65 : Nat) (q_68 : Nat) (q_70 : Nat) (q_72 : Nat) (sz : Nat) : Met l yX19_ssa v_X19_ssa ({ frames := 1, cells := 0, slots := 0, locals := 21 }) (va_Pc [.ref h0] (fun U => U.heap.size = sz ∧ va_P (dC, dI) vwP [(h0, .inr (16, [.ref q_1, .ref q_12, .ref q_17, .ref q_22, .ref q_24, .ref q_26, .ref q_28, .ref q_29, .ref q_31, .ref q_33, .ref q_35, .int 0, .ref q_37, .ref q_39, .ref q_41, .ref q_43, .ref q_45, .ref q_47, .ref q_49, .ref q_51, .ref q_53, .ref q_55, .ref q_57, .int 0, .ref q_59, .ref q_61, .ref q_63, .int (-1), .int 0, .int 0, .int 0, .int 0, .ref q_65, .int 0, .ref q_68, .int 0, .int (-1), .int 0, .int 0, .ref q_70, .ref q_72]))] U.heap ∧ va_K (dC, dI) vwP [] U ∧ va_D (fun _ => True) [(h0, .inr (16, [.ref q_1, .ref q_12, .ref q_17, .ref q_22, .ref q_24, .ref q_26, .ref q_28, .ref q_29, .ref q_31, .ref q_33, .ref q_35, .int 0, .ref q_37, .ref q_39, .ref q_41, .ref q_43, .ref q_45, .ref q_47, .ref q_49, .ref q_51, .ref q_53, .ref q_55, .ref q_57, .int 0, .ref q_59, .ref q_61, .ref q_63, .int (-1), .int 0, .int 0, .int 0, .int 0, .ref q_65, .int 0, .ref q_68, .int 0, .int (-1), .int 0, .int 0, .ref q_70, .ref q_72]))])) (va_Qi (fun (r : Int32) (_ : Unit) => kf_ssa = 0 → r = vf_ssa) (fun (_ : Unit) (t : State) => ∃ (i_33 : Int32) (i_35 : Int32) (i_36 : Int32) (i_37 : Int32) (q_940 : Nat), (i_33 = kf_ssa) ∧ va_P (dC, dI) vwP [(h0, .inr (16, [.ref q_1, .ref q_12, .ref q_17, .ref q_22, .ref q_24, .ref q_26, .ref q_28, .ref q_29, .ref q_31, .ref q_33, .ref q_35, .int 0, .ref q_37, .ref q_39, .ref q_41, .ref q_43, .ref q_45, .ref q_47, .ref q_49, .ref q_51, .ref q_53, .ref q_55, .ref q_57, .int 0, .ref q_59, .ref q_61, .ref q_63, .int (-1), .int 0, .int 0, .int 0, .int 0, .ref q_65, .int i_33, .ref q_68, .int i_35, .int i_36, .int i_37, .int 0, .ref q_70, .ref q_940]))] t.heap ∧ va_K (dC, dI) vwP [] t ∧ va_D (va_A [(h0, .inr (16, [.ref q_1, .ref q_12, .ref q_17, .ref q_22, .ref q_24, .ref q_26, .ref q_28, .ref q_29, .ref q_31, .ref q_33, .ref q_35, .int 0, .ref q_37, .ref q_39, .ref q_41, .ref q_43, .ref q_45, .ref q_47, .ref q_49, .ref q_51, .ref q_53, .ref q_55, .ref q_57, .int 0, .ref q_59, .ref q_61, .ref q_63, .int (-1), .int 0, .int 0, .int 0, .int 0, .ref q_65, .int 0, .ref q_68, .int 0, .int (-1), .int 0, .int 0, .ref q_70, .ref q_72]))] sz) [(h0, .inr (16, [.ref q_1, .ref q_12, .ref q_17, .ref q_22, .ref q_24, .ref q_26, .ref q_28, .ref q_29, .ref q_31, .ref q_33, .ref q_35, .int 0, .ref q_37, .ref q_39, .ref q_41, .ref q_43, .ref q_45, .ref q_47, .ref q_49, .ref q_51, .ref q_53, .ref q_55, .ref q_57, .int 0, .ref q_59, .ref q_61, .ref q_63, .int (-1), .int 0, .int 0, .int 0, .int 0, .ref q_65, .int i_33, .ref q_68, .int i_35, .int i_36, .int i_37, .int 0, .ref q_70, .ref q_940]))]) (va_A [(h0, .inr (16, [.ref q_1, .ref q_12, .ref q_17, .ref q_22, .ref q_24, .ref q_26, .ref q_28, .ref q_29, .ref q_31, .ref q_33, .ref q_35, .int 0, .ref q_37, .ref q_39, .ref q_41, .ref q_43, .ref q_45, .ref q_47, .ref q_49, .ref q_51, .ref q_53, .ref q_55, .ref q_57, .int 0, .ref q_59, .ref q_61, .ref q_63, .int (-1), .int 0, .int 0, .int 0, .int 0, .ref q_65, .int 0, .ref q_68, .int 0, .int (-1), .int 0, .int 0, .ref q_70, .ref q_72]))] sz)) 0 0 (va_A [(h0, .inr (16, [.ref q_1, .ref q_12, .ref q_17, .ref q_22, .ref q_24, .ref q_26, .ref q_28, .ref q_29, .ref q_31, .ref q_33, .ref q_35, .int 0, .ref q_37, .ref q_39, .ref q_41, .ref q_43, .ref q_45, .ref q_47, .ref q_49, .ref q_51, .ref q_53, .ref q_55, .ref q_57, .int 0, .ref q_59, .ref q_61, .ref q_63, .int (-1), .int 0, .int 0, .int 0, .int 0, .ref q_65, .int 0, .ref q_68, .int 0, .int (-1), .int 0, .int 0, .ref q_70, .ref q_72]))] sz) := by
  refine Met.ofW (cc := cX19_ssa) (maxL := 1) (ret := (some .int)) (by decide) rfl ?_
  intro p e s m args below meth c s₁ B hml hv
  obtain ⟨rfl, hsz, hP, hK, hD0⟩ := hv
  have hx := B.exec
  have hb := B.bytes
  have hr := B.returns
  have hts := atoms_spec (ws := v_X19_ssa) B.pre
  have hown : s.vm.findClass RX19 = some m.cls := findClass_of_methodNamed B.named
  have hlocks := B.notSynchronized
  have ow : ∀ {k : Nat} {w : Cond}, o_X19_ssa[k]? = some w → w.before ([.ref h0] : List Value).toArray s = true := fun h => hts _ (mow_X19_ssa _ (List.mem_of_getElem? h))
  subst hsz
  have hD := hD0.self (sz := s.heap.size)
  generalize hAe : va_A [(h0, .inr (16, [.ref q_1, .ref q_12, .ref q_17, .ref q_22, .ref q_24, .ref q_26, .ref q_28, .ref q_29, .ref q_31, .ref q_33, .ref q_35, .int 0, .ref q_37, .ref q_39, .ref q_41, .ref q_43, .ref q_45, .ref q_47, .ref q_49, .ref q_51, .ref q_53, .ref q_55, .ref q_57, .int 0, .ref q_59, .ref q_61, .ref q_63, .int (-1), .int 0, .int 0, .int 0, .int 0, .ref q_65, .int 0, .ref q_68, .int 0, .int (-1), .int 0, .int 0, .ref q_70, .ref q_72]))] s.heap.size = A at hD ⊢
  have hA : ∀ q : Nat, s.heap.size ≤ q → A q := fun q h => by rw [← hAe]; exact Or.inr h
  have hS : va_S A s.heap s.heap [] := va_S.rf
  have hP : va_P (dC, dI) vwP [(h0, .inr (16, [.ref q_1, .ref q_12, .ref q_17, .ref q_22, .ref q_24, .ref q_26, .ref q_28, .ref q_29, .ref q_31, .ref q_33, .ref q_35, .int 0, .ref q_37, .ref q_39, .ref q_41, .ref q_43, .ref q_45, .ref q_47, .ref q_49, .ref q_51, .ref q_53, .ref q_55, .ref q_57, .int 0, .ref q_59, .ref q_61, .ref q_63, .int (-1), .int 0, .int 0, .int 0, .int 0, .ref q_65, .int 0, .ref q_68, .int 0, .int (-1), .int 0, .int 0, .ref q_70, .ref q_72]))] s.heap := hP
  have hl := lv_entry ([.ref h0]) (n := 1) (Nat.le_of_ble_eq_true rfl)
  rw [lg_entry_eq]
  generalize (lg_sl ([.ref h0]) ++ List.replicate (1 - (lg_sl ([.ref h0])).length) Slot.unset).toArray = ls at hl ⊢
  have hl : lv_has ls 1 [(0, .ref h0)] := hl
  obtain ⟨H, hH⟩ : ∃ H, H = s.heap := ⟨_, rfl⟩
  rw [← hH] at hP
  have hS : va_S A s.heap H [] := by rw [hH]; exact hS
  rw [← hH]
  refine lv_aload_n hx hb dX19_ssa_0 rfl (lv_at hl 0 rfl) ?_
  refine lv_iconst (v := 0) hx hb dX19_ssa_1 (by decide) ?_
  refine va_put (D := (dC, dI)) (ci := 16) (v := .int 0) (ty := .int) (C := RX19) (T := TX19) (N := 41) hx hb hts mem_X19_ssa_0 tyX19 tyX19_ok nmX19 hown hK hP hD hS 0 rfl rfl 33 (by decide) (ow (k := 0) rfl) (fun _ h9 => h9) rfl (by decide +kernel) rfl rfl (Nat.le_of_ble_eq_true rfl) dX19_ssa_2 (fun H locs hP hD hS => ?_)
  have hP : va_P (dC, dI) vwP [(h0, .inr (16, [.ref q_1, .ref q_12, .ref q_17, .ref q_22, .ref q_24, .ref q_26, .ref q_28, .ref q_29, .ref q_31, .ref q_33, .ref q_35, .int 0, .ref q_37, .ref q_39, .ref q_41, .ref q_43, .ref q_45, .ref q_47, .ref q_49, .ref q_51, .ref q_53, .ref q_55, .ref q_57, .int 0, .ref q_59, .ref q_61, .ref q_63, .int (-1), .int 0, .int 0, .int 0, .int 0, .ref q_65, .int 0, .ref q_68, .int 0, .int (-1), .int 0, .int 0, .ref q_70, .ref q_72]))] H := hP
  have hD : va_D A [(h0, .inr (16, [.ref q_1, .ref q_12, .ref q_17, .ref q_22, .ref q_24, .ref q_26, .ref q_28, .ref q_29, .ref q_31, .ref q_33, .ref q_35, .int 0, .ref q_37, .ref q_39, .ref q_41, .ref q_43, .ref q_45, .ref q_47, .ref q_49, .ref q_51, .ref q_53, .ref q_55, .ref q_57, .int 0, .ref q_59, .ref q_61, .ref q_63, .int (-1), .int 0, .int 0, .int 0, .int 0, .ref q_65, .int 0, .ref q_68, .int 0, .int (-1), .int 0, .int 0, .ref q_70, .ref q_72]))] := hD
  refine lv_aload_n hx hb dX19_ssa_5 rfl (lv_at hl 0 rfl) ?_
  refine va_get (D := (dC, dI)) (ci := 16) (v := .int (-1)) (C := RX19) (T := TX19) (N := 41) hx hb hts mem_X19_ssa_0 hown hK hP 0 rfl rfl 36 (by decide) (ow (k := 1) rfl) (fun _ h9 => h9) rfl dX19_ssa_6 ?_
  refine lv_if_eq (tgt := 18) hx hb dX19_ssa_9 (by decide) (fun h9 => absurd h9 (by decide)) (fun _ => ?_)
  refine lv_aload_n hx hb dX19_ssa_12 rfl (lv_at hl 0 rfl) ?_
  refine lv_iconst (v := 1) hx hb dX19_ssa_13 (by decide) ?_
  have hPc := hP.sub (ws' := [(h0, .inr (16, [.ref q_1, .ref q_12, .ref q_17, .ref q_22, .ref q_24, .ref q_26, .ref q_28, .ref q_29, .ref q_31, .ref q_33, .ref q_35, .int 0, .ref q_37, .ref q_39, .ref q_41, .ref q_43, .ref q_45, .ref q_47, .ref q_49, .ref q_51, .ref q_53, .ref q_55, .ref q_57, .int 0, .ref q_59, .ref q_61, .ref q_63, .int (-1), .int 0, .int 0, .int 0, .int 0, .ref q_65, .int 0, .ref q_68, .int 0, .int (-1), .int 0, .int 0, .ref q_70, .ref q_72]))]) [0] rfl
  have hDc := hD.sub (ws' := [(h0, .inr (16, [.ref q_1, .ref q_12, .ref q_17, .ref q_22, .ref q_24, .ref q_26, .ref q_28, .ref q_29, .ref q_31, .ref q_33, .ref q_35, .int 0, .ref q_37, .ref q_39, .ref q_41, .ref q_43, .ref q_45, .ref q_47, .ref q_49, .ref q_51, .ref q_53, .ref q_55, .ref q_57, .int 0, .ref q_59, .ref q_61, .ref q_63, .int (-1), .int 0, .int 0, .int 0, .int 0, .ref q_65, .int 0, .ref q_68, .int 0, .int (-1), .int 0, .int 0, .ref q_70, .ref q_72]))]) [0] (by decide) rfl
  have hKc := hK.sub (tys' := []) [] rfl
  have hFc := va_free (wc := [(h0, .inr (16, [.ref q_1, .ref q_12, .ref q_17, .ref q_22, .ref q_24, .ref q_26, .ref q_28, .ref q_29, .ref q_31, .ref q_33, .ref q_35, .int 0, .ref q_37, .ref q_39, .ref q_41, .ref q_43, .ref q_45, .ref q_47, .ref q_49, .ref q_51, .ref q_53, .ref q_55, .ref q_57, .int 0, .ref q_59, .ref q_61, .ref q_63, .int (-1), .int 0, .int 0, .int 0, .int 0, .ref q_65, .int 0, .ref q_68, .int 0, .int (-1), .int 0, .int 0, .ref q_70, .ref q_72]))]) hD hS hA [0] rfl
  refine va_calli (va_runV (As := [.int 1]) (rest := []) ⟨hx, hb, hml, hown, hts⟩ (c_X19_no l dC dI h0 q_1 q_12 q_17 q_22 q_24 q_26 q_28 q_29 q_31 q_33 q_35 q_37 q_39 q_41 q_43 q_45 q_47 q_49 q_51 q_53 q_55 q_57 q_59 q_61 q_63 q_65 q_68 q_70 q_72 1 H.size) (cwV 1 hts g_X19_ssa_X19_no rfl rfl rfl (by decide +kernel) ⟨(Nat.le_of_ble_eq_true rfl), (Nat.le_of_ble_eq_true rfl)⟩) ⟨fun a U g mk q => by obtain ⟨q0, q1, qP, qK, qD⟩ := q; exact ⟨q0, q1, qP, va_K.moved (u := U) (U := U.calling g mk a) (Vm.Alike.refl U.vm) qK, qD⟩, va_recv hKc hPc (ci := 16) (q0 := 0) rfl rfl, fun U hU hW => ⟨rfl, by rw [hU], by rw [hU]; exact hPc, va_K.moved hW.alike hKc, hDc.weaken (fun _ _ _ _ => trivial)⟩⟩ rfl rfl hl.1 rfl (lv_room (Nat.le_of_ble_eq_true rfl)) dX19_ssa_14 ⟨(Nat.le_of_ble_eq_true rfl), (Nat.le_of_ble_eq_true rfl)⟩) hS (fun q _ h => hFc q h) hFc (fun r_2001 u t H1 locs ht hvm hw hB hz1 hk1 hS => ?_)
  obtain ⟨hP1, hK1, hD1⟩ := hB
  rw [ht] at hP1
  have hK1 := va_K.moved hvm.symm hK1
  obtain ⟨hP, hD⟩ := va_join (wr := []) (w1 := [(h0, .inr (16, [.ref q_1, .ref q_12, .ref q_17, .ref q_22, .ref q_24, .ref q_26, .ref q_28, .ref q_29, .ref q_31, .ref q_33, .ref q_35, .int 0, .ref q_37, .ref q_39, .ref q_41, .ref q_43, .ref q_45, .ref q_47, .ref q_49, .ref q_51, .ref q_53, .ref q_55, .ref q_57, .int 0, .ref q_59, .ref q_61, .ref q_63, .int (-1), .int 0, .int 0, .int 0, .int 0, .ref q_65, .int 1, .ref q_68, .int 0, .int (-1), .int 0, .int 0, .ref q_70, .ref q_72]))]) hP hD [0] [] rfl rfl (by decide) (by decide) hk1 hFc hP1 hD1
  have hK := (hK.sub (tys' := []) [] rfl).app hK1
  generalize H1 = H at hP hS ⊢
  have hP : va_P (dC, dI) vwP [(h0, .inr (16, [.ref q_1, .ref q_12, .ref q_17, .ref q_22, .ref q_24, .ref q_26, .ref q_28, .ref q_29, .ref q_31, .ref q_33, .ref q_35, .int 0, .ref q_37, .ref q_39, .ref q_41, .ref q_43, .ref q_45, .ref q_47, .ref q_49, .ref q_51, .ref q_53, .ref q_55, .ref q_57, .int 0, .ref q_59, .ref q_61, .ref q_63, .int (-1), .int 0, .int 0, .int 0, .int 0, .ref q_65, .int 1, .ref q_68, .int 0, .int (-1), .int 0, .int 0, .ref q_70, .ref q_72]))] H := hP
  have hD : va_D A [(h0, .inr (16, [.ref q_1, .ref q_12, .ref q_17, .ref q_22, .ref q_24, .ref q_26, .ref q_28, .ref q_29, .ref q_31, .ref q_33, .ref q_35, .int 0, .ref q_37, .ref q_39, .ref q_41, .ref q_43, .ref q_45, .ref q_47, .ref q_49, .ref q_51, .ref q_53, .ref q_55, .ref q_57, .int 0, .ref q_59, .ref q_61, .ref q_63, .int (-1), .int 0, .int 0, .int 0, .int 0, .ref q_65, .int 1, .ref q_68, .int 0, .int (-1), .int 0, .int 0, .ref q_70, .ref q_72]))] := hD
  have hK : va_K (dC, dI) vwP [] s := hK
  refine W.widen (k := 0) (n := 0) (Nat.le_of_ble_eq_true rfl) (Nat.le_of_ble_eq_true rfl) ?_
  obtain rfl : r_2001 = 0 := hw
  refine W.widen (k := 0) (n := 0) (Nat.le_of_ble_eq_true rfl) (Nat.le_of_ble_eq_true rfl) ?_
  exact W.iret (v := 0) hx hb hr (fun t ht hW => ⟨⟨0, (), rfl, (fun h9 => absurd ((show kf_ssa = 1 by unfold kf_ssa; first | rfl | (split <;> first | rfl | (exfalso; omega))).symm.trans h9) (by decide)), 1, 0, (-1), 0, q_72, (show kf_ssa = 1 by unfold kf_ssa; first | rfl | (split <;> first | rfl | (exfalso; omega))).symm, by rw [ht]; exact hP, va_K.moved hW.alike hK, hD⟩, hS.F ht⟩) hS.2.2 dX19_ssa_17
theorem dX19_pass_0 : decode cX19_pass 0 = .ok (.aload_n 0, 1) := by decide +kernel
theorem dX19_pass_1 : decode cX19_pass 1 = .ok (.iconst 0, 1) := by decide +kernel
theorem dX19_pass_2 : decode cX19_pass 2 = .ok (.putfield 560, 3) := by decide +kernel
theorem dX19_pass_5 : decode cX19_pass 5 = .ok (.iload_n 1, 1) := by decide +kernel
theorem dX19_pass_6 : decode cX19_pass 6 = .ok (.iconst 1, 1) := by decide +kernel
theorem dX19_pass_7 : decode cX19_pass 7 = .ok (.if_icmp .lt 9, 3) := by decide +kernel
theorem dX19_pass_16 : decode cX19_pass 16 = .ok (.aload_n 0, 1) := by decide +kernel
theorem dX19_pass_17 : decode cX19_pass 17 = .ok (.iconst 1, 1) := by decide +kernel
theorem dX19_pass_18 : decode cX19_pass 18 = .ok (.invokevirtual 565, 3) := by decide +kernel
theorem dX19_pass_21 : decode cX19_pass 21 = .ok (.ireturn, 1) := by decide +kernel
theorem dX19_pass_10 : decode cX19_pass 10 = .ok (.iload_n 1, 1) := by decide +kernel
theorem dX19_pass_11 : decode cX19_pass 11 = .ok (.bipush 7, 2) := by decide +kernel
theorem dX19_pass_13 : decode cX19_pass 13 = .ok (.if_icmp .le 9, 3) := by decide +kernel
theorem dX19_pass_22 : decode cX19_pass 22 = .ok (.aload_n 0, 1) := by decide +kernel
theorem dX19_pass_23 : decode cX19_pass 23 = .ok (.getfield 555, 3) := by decide +kernel
theorem dX19_pass_26 : decode cX19_pass 26 = .ok (.iconst 1, 1) := by decide +kernel
theorem dX19_pass_27 : decode cX19_pass 27 = .ok (.if_icmp .eq 9, 3) := by decide +kernel
theorem dX19_pass_30 : decode cX19_pass 30 = .ok (.aload_n 0, 1) := by decide +kernel
theorem dX19_pass_31 : decode cX19_pass 31 = .ok (.iconst 2, 1) := by decide +kernel
theorem dX19_pass_32 : decode cX19_pass 32 = .ok (.invokevirtual 565, 3) := by decide +kernel
theorem dX19_pass_35 : decode cX19_pass 35 = .ok (.ireturn, 1) := by decide +kernel
def o_X19_pass : List Cond := [.fieldLink RX19 560 "SsaForgeModel" "thrown" "I", .methodLink RX19 565 yX19_no, .instanceMethod yX19_no, .selects RX19 yX19_no yX19_no, .initialized RX19, .fieldLink RX19 555 "SsaForgeModel" "form" "I"]
def v_X19_pass : List Cond := .code yX19_pass cX19_pass 2 (some .int) :: (o_X19_pass ++ (wsX190 ++ (v_X19_no ++ [])))
theorem mow_X19_pass : ∀ w ∈ o_X19_pass, w ∈ v_X19_pass := fun _ h => List.mem_cons_of_mem _ (List.mem_append_left _ h)
theorem mem_X19_pass_0 : ∀ w ∈ wsX190, w ∈ v_X19_pass := fun _ h => List.mem_cons_of_mem _ (List.mem_append_right _ (List.mem_append_left _ h))
theorem mem_X19_pass_1 : ∀ w ∈ v_X19_no, w ∈ v_X19_pass := fun _ h => List.mem_cons_of_mem _ (List.mem_append_right _ (List.mem_append_right _ (List.mem_append_left _ h)))
set_option maxRecDepth 20000 in
theorem gw_X19_pass : v_X19_pass.all goodWord = true := by decide +kernel
set_option maxRecDepth 20000 in
theorem g_X19_pass_X19_no : GoodIn v_X19_pass (wsV RX19 565 RX19 yX19_no v_X19_no) := goodIn_app (goodIn_sub (fun w h => mow_X19_pass w (by revert w h; decide +kernel)) (by decide +kernel)) (goodIn_sub mem_X19_pass_1 gw_X19_no)
set_option maxHeartbeats 4000000 in
set_option maxRecDepth 100000 in
theorem c_X19_pass (l : Launch) (dC : Nat → ClassId) (dI : Nat → Nat → Nat) (h0 : Nat) (q_1 : Nat) (q_12 : Nat) (q_17 : Nat) (q_22 : Nat) (q_24 : Nat) (q_26 : Nat) (q_28 : Nat) (q_29 : Nat) (q_31 : Nat) (q_33 : Nat) (q_35 : Nat) (q_37 : Nat) (q_39 : Nat) (q_41 : Nat) (q_43 : Nat) (q_45 : Nat) (q_47 : Nat) (q_49 : Nat) (q_51 : Nat) (q_53 : Nat) (q_55 : Nat) (q_57 : Nat) (q_59 : Nat) (q_61 : Nat) (q_63 : Nat) (q_65 : Nat) (q_68 : Nat) (q_70 : Nat) (q_72 : Nat) (p0 : Int32) (sz : Nat) : Met l yX19_pass v_X19_pass ({ frames := 1, cells := 0, slots := 0, locals := 21 }) (va_Pc [.ref h0, .int p0] (fun U => U.heap.size = sz ∧ va_P (dC, dI) vwP [(h0, .inr (16, [.ref q_1, .ref q_12, .ref q_17, .ref q_22, .ref q_24, .ref q_26, .ref q_28, .ref q_29, .ref q_31, .ref q_33, .ref q_35, .int 0, .ref q_37, .ref q_39, .ref q_41, .ref q_43, .ref q_45, .ref q_47, .ref q_49, .ref q_51, .ref q_53, .ref q_55, .ref q_57, .int 0, .ref q_59, .ref q_61, .ref q_63, .int (-1), .int 0, .int 0, .int 0, .int 0, .ref q_65, .int 0, .ref q_68, .int 0, .int (-1), .int 0, .int 0, .ref q_70, .ref q_72]))] U.heap ∧ va_K (dC, dI) vwP [] U ∧ va_D (fun _ => True) [(h0, .inr (16, [.ref q_1, .ref q_12, .ref q_17, .ref q_22, .ref q_24, .ref q_26, .ref q_28, .ref q_29, .ref q_31, .ref q_33, .ref q_35, .int 0, .ref q_37, .ref q_39, .ref q_41, .ref q_43, .ref q_45, .ref q_47, .ref q_49, .ref q_51, .ref q_53, .ref q_55, .ref q_57, .int 0, .ref q_59, .ref q_61, .ref q_63, .int (-1), .int 0, .int 0, .int 0, .int 0, .ref q_65, .int 0, .ref q_68, .int 0, .int (-1), .int 0, .int 0, .ref q_70, .ref q_72]))])) (va_Qi (fun (r : Int32) (_ : Unit) => kf_pass p0 = 0 → r = vf_pass) (fun (_ : Unit) (t : State) => ∃ (i_33 : Int32) (i_35 : Int32) (i_36 : Int32) (i_37 : Int32) (q_940 : Nat), (i_33 = kf_pass p0) ∧ va_P (dC, dI) vwP [(h0, .inr (16, [.ref q_1, .ref q_12, .ref q_17, .ref q_22, .ref q_24, .ref q_26, .ref q_28, .ref q_29, .ref q_31, .ref q_33, .ref q_35, .int 0, .ref q_37, .ref q_39, .ref q_41, .ref q_43, .ref q_45, .ref q_47, .ref q_49, .ref q_51, .ref q_53, .ref q_55, .ref q_57, .int 0, .ref q_59, .ref q_61, .ref q_63, .int (-1), .int 0, .int 0, .int 0, .int 0, .ref q_65, .int i_33, .ref q_68, .int i_35, .int i_36, .int i_37, .int 0, .ref q_70, .ref q_940]))] t.heap ∧ va_K (dC, dI) vwP [] t ∧ va_D (va_A [(h0, .inr (16, [.ref q_1, .ref q_12, .ref q_17, .ref q_22, .ref q_24, .ref q_26, .ref q_28, .ref q_29, .ref q_31, .ref q_33, .ref q_35, .int 0, .ref q_37, .ref q_39, .ref q_41, .ref q_43, .ref q_45, .ref q_47, .ref q_49, .ref q_51, .ref q_53, .ref q_55, .ref q_57, .int 0, .ref q_59, .ref q_61, .ref q_63, .int (-1), .int 0, .int 0, .int 0, .int 0, .ref q_65, .int 0, .ref q_68, .int 0, .int (-1), .int 0, .int 0, .ref q_70, .ref q_72]))] sz) [(h0, .inr (16, [.ref q_1, .ref q_12, .ref q_17, .ref q_22, .ref q_24, .ref q_26, .ref q_28, .ref q_29, .ref q_31, .ref q_33, .ref q_35, .int 0, .ref q_37, .ref q_39, .ref q_41, .ref q_43, .ref q_45, .ref q_47, .ref q_49, .ref q_51, .ref q_53, .ref q_55, .ref q_57, .int 0, .ref q_59, .ref q_61, .ref q_63, .int (-1), .int 0, .int 0, .int 0, .int 0, .ref q_65, .int i_33, .ref q_68, .int i_35, .int i_36, .int i_37, .int 0, .ref q_70, .ref q_940]))]) (va_A [(h0, .inr (16, [.ref q_1, .ref q_12, .ref q_17, .ref q_22, .ref q_24, .ref q_26, .ref q_28, .ref q_29, .ref q_31, .ref q_33, .ref q_35, .int 0, .ref q_37, .ref q_39, .ref q_41, .ref q_43, .ref q_45, .ref q_47, .ref q_49, .ref q_51, .ref q_53, .ref q_55, .ref q_57, .int 0, .ref q_59, .ref q_61, .ref q_63, .int (-1), .int 0, .int 0, .int 0, .int 0, .ref q_65, .int 0, .ref q_68, .int 0, .int (-1), .int 0, .int 0, .ref q_70, .ref q_72]))] sz)) 0 0 (va_A [(h0, .inr (16, [.ref q_1, .ref q_12, .ref q_17, .ref q_22, .ref q_24, .ref q_26, .ref q_28, .ref q_29, .ref q_31, .ref q_33, .ref q_35, .int 0, .ref q_37, .ref q_39, .ref q_41, .ref q_43, .ref q_45, .ref q_47, .ref q_49, .ref q_51, .ref q_53, .ref q_55, .ref q_57, .int 0, .ref q_59, .ref q_61, .ref q_63, .int (-1), .int 0, .int 0, .int 0, .int 0, .ref q_65, .int 0, .ref q_68, .int 0, .int (-1), .int 0, .int 0, .ref q_70, .ref q_72]))] sz) := by
  refine Met.ofW (cc := cX19_pass) (maxL := 2) (ret := (some .int)) (by decide) rfl ?_
  intro p e s m args below meth c s₁ B hml hv
  obtain ⟨rfl, hsz, hP, hK, hD0⟩ := hv
  have hx := B.exec
  have hb := B.bytes
  have hr := B.returns
  have hts := atoms_spec (ws := v_X19_pass) B.pre
  have hown : s.vm.findClass RX19 = some m.cls := findClass_of_methodNamed B.named
  have hlocks := B.notSynchronized
  have ow : ∀ {k : Nat} {w : Cond}, o_X19_pass[k]? = some w → w.before ([.ref h0, .int p0] : List Value).toArray s = true := fun h => hts _ (mow_X19_pass _ (List.mem_of_getElem? h))
  subst hsz
  have hD := hD0.self (sz := s.heap.size)
  generalize hAe : va_A [(h0, .inr (16, [.ref q_1, .ref q_12, .ref q_17, .ref q_22, .ref q_24, .ref q_26, .ref q_28, .ref q_29, .ref q_31, .ref q_33, .ref q_35, .int 0, .ref q_37, .ref q_39, .ref q_41, .ref q_43, .ref q_45, .ref q_47, .ref q_49, .ref q_51, .ref q_53, .ref q_55, .ref q_57, .int 0, .ref q_59, .ref q_61, .ref q_63, .int (-1), .int 0, .int 0, .int 0, .int 0, .ref q_65, .int 0, .ref q_68, .int 0, .int (-1), .int 0, .int 0, .ref q_70, .ref q_72]))] s.heap.size = A at hD ⊢
  have hA : ∀ q : Nat, s.heap.size ≤ q → A q := fun q h => by rw [← hAe]; exact Or.inr h
  have hS : va_S A s.heap s.heap [] := va_S.rf
  have hP : va_P (dC, dI) vwP [(h0, .inr (16, [.ref q_1, .ref q_12, .ref q_17, .ref q_22, .ref q_24, .ref q_26, .ref q_28, .ref q_29, .ref q_31, .ref q_33, .ref q_35, .int 0, .ref q_37, .ref q_39, .ref q_41, .ref q_43, .ref q_45, .ref q_47, .ref q_49, .ref q_51, .ref q_53, .ref q_55, .ref q_57, .int 0, .ref q_59, .ref q_61, .ref q_63, .int (-1), .int 0, .int 0, .int 0, .int 0, .ref q_65, .int 0, .ref q_68, .int 0, .int (-1), .int 0, .int 0, .ref q_70, .ref q_72]))] s.heap := hP
  have hl := lv_entry ([.ref h0, .int p0]) (n := 2) (Nat.le_of_ble_eq_true rfl)
  rw [lg_entry_eq]
  generalize (lg_sl ([.ref h0, .int p0]) ++ List.replicate (2 - (lg_sl ([.ref h0, .int p0])).length) Slot.unset).toArray = ls at hl ⊢
  have hl : lv_has ls 2 [(0, .ref h0), (1, .int p0)] := hl
  obtain ⟨H, hH⟩ : ∃ H, H = s.heap := ⟨_, rfl⟩
  rw [← hH] at hP
  have hS : va_S A s.heap H [] := by rw [hH]; exact hS
  rw [← hH]
  refine lv_aload_n hx hb dX19_pass_0 rfl (lv_at hl 0 rfl) ?_
  refine lv_iconst (v := 0) hx hb dX19_pass_1 (by decide) ?_
  refine va_put (D := (dC, dI)) (ci := 16) (v := .int 0) (ty := .int) (C := RX19) (T := TX19) (N := 41) hx hb hts mem_X19_pass_0 tyX19 tyX19_ok nmX19 hown hK hP hD hS 0 rfl rfl 33 (by decide) (ow (k := 0) rfl) (fun _ h9 => h9) rfl (by decide +kernel) rfl rfl (Nat.le_of_ble_eq_true rfl) dX19_pass_2 (fun H locs hP hD hS => ?_)
  have hP : va_P (dC, dI) vwP [(h0, .inr (16, [.ref q_1, .ref q_12, .ref q_17, .ref q_22, .ref q_24, .ref q_26, .ref q_28, .ref q_29, .ref q_31, .ref q_33, .ref q_35, .int 0, .ref q_37, .ref q_39, .ref q_41, .ref q_43, .ref q_45, .ref q_47, .ref q_49, .ref q_51, .ref q_53, .ref q_55, .ref q_57, .int 0, .ref q_59, .ref q_61, .ref q_63, .int (-1), .int 0, .int 0, .int 0, .int 0, .ref q_65, .int 0, .ref q_68, .int 0, .int (-1), .int 0, .int 0, .ref q_70, .ref q_72]))] H := hP
  have hD : va_D A [(h0, .inr (16, [.ref q_1, .ref q_12, .ref q_17, .ref q_22, .ref q_24, .ref q_26, .ref q_28, .ref q_29, .ref q_31, .ref q_33, .ref q_35, .int 0, .ref q_37, .ref q_39, .ref q_41, .ref q_43, .ref q_45, .ref q_47, .ref q_49, .ref q_51, .ref q_53, .ref q_55, .ref q_57, .int 0, .ref q_59, .ref q_61, .ref q_63, .int (-1), .int 0, .int 0, .int 0, .int 0, .ref q_65, .int 0, .ref q_68, .int 0, .int (-1), .int 0, .int 0, .ref q_70, .ref q_72]))] := hD
  refine lv_iload_n hx hb dX19_pass_5 rfl (lv_at hl 1 rfl) ?_
  refine lv_iconst (v := 1) hx hb dX19_pass_6 (by decide) ?_
  refine lv_icmp_lt (tgt := 16) hx hb dX19_pass_7 (by decide) (fun b7 => ?_) (fun b7 => ?_)
  · refine lv_aload_n hx hb dX19_pass_16 rfl (lv_at hl 0 rfl) ?_
    refine lv_iconst (v := 1) hx hb dX19_pass_17 (by decide) ?_
    have hPc := hP.sub (ws' := [(h0, .inr (16, [.ref q_1, .ref q_12, .ref q_17, .ref q_22, .ref q_24, .ref q_26, .ref q_28, .ref q_29, .ref q_31, .ref q_33, .ref q_35, .int 0, .ref q_37, .ref q_39, .ref q_41, .ref q_43, .ref q_45, .ref q_47, .ref q_49, .ref q_51, .ref q_53, .ref q_55, .ref q_57, .int 0, .ref q_59, .ref q_61, .ref q_63, .int (-1), .int 0, .int 0, .int 0, .int 0, .ref q_65, .int 0, .ref q_68, .int 0, .int (-1), .int 0, .int 0, .ref q_70, .ref q_72]))]) [0] rfl
    have hDc := hD.sub (ws' := [(h0, .inr (16, [.ref q_1, .ref q_12, .ref q_17, .ref q_22, .ref q_24, .ref q_26, .ref q_28, .ref q_29, .ref q_31, .ref q_33, .ref q_35, .int 0, .ref q_37, .ref q_39, .ref q_41, .ref q_43, .ref q_45, .ref q_47, .ref q_49, .ref q_51, .ref q_53, .ref q_55, .ref q_57, .int 0, .ref q_59, .ref q_61, .ref q_63, .int (-1), .int 0, .int 0, .int 0, .int 0, .ref q_65, .int 0, .ref q_68, .int 0, .int (-1), .int 0, .int 0, .ref q_70, .ref q_72]))]) [0] (by decide) rfl
    have hKc := hK.sub (tys' := []) [] rfl
    have hFc := va_free (wc := [(h0, .inr (16, [.ref q_1, .ref q_12, .ref q_17, .ref q_22, .ref q_24, .ref q_26, .ref q_28, .ref q_29, .ref q_31, .ref q_33, .ref q_35, .int 0, .ref q_37, .ref q_39, .ref q_41, .ref q_43, .ref q_45, .ref q_47, .ref q_49, .ref q_51, .ref q_53, .ref q_55, .ref q_57, .int 0, .ref q_59, .ref q_61, .ref q_63, .int (-1), .int 0, .int 0, .int 0, .int 0, .ref q_65, .int 0, .ref q_68, .int 0, .int (-1), .int 0, .int 0, .ref q_70, .ref q_72]))]) hD hS hA [0] rfl
    refine va_calli (va_runV (As := [.int 1]) (rest := []) ⟨hx, hb, hml, hown, hts⟩ (c_X19_no l dC dI h0 q_1 q_12 q_17 q_22 q_24 q_26 q_28 q_29 q_31 q_33 q_35 q_37 q_39 q_41 q_43 q_45 q_47 q_49 q_51 q_53 q_55 q_57 q_59 q_61 q_63 q_65 q_68 q_70 q_72 1 H.size) (cwV 1 hts g_X19_pass_X19_no rfl rfl rfl (by decide +kernel) ⟨(Nat.le_of_ble_eq_true rfl), (Nat.le_of_ble_eq_true rfl)⟩) ⟨fun a U g mk q => by obtain ⟨q0, q1, qP, qK, qD⟩ := q; exact ⟨q0, q1, qP, va_K.moved (u := U) (U := U.calling g mk a) (Vm.Alike.refl U.vm) qK, qD⟩, va_recv hKc hPc (ci := 16) (q0 := 0) rfl rfl, fun U hU hW => ⟨rfl, by rw [hU], by rw [hU]; exact hPc, va_K.moved hW.alike hKc, hDc.weaken (fun _ _ _ _ => trivial)⟩⟩ rfl rfl hl.1 rfl (lv_room (Nat.le_of_ble_eq_true rfl)) dX19_pass_18 ⟨(Nat.le_of_ble_eq_true rfl), (Nat.le_of_ble_eq_true rfl)⟩) hS (fun q _ h => hFc q h) hFc (fun r_2001 u t H1 locs ht hvm hw hB hz1 hk1 hS => ?_)
    obtain ⟨hP1, hK1, hD1⟩ := hB
    rw [ht] at hP1
    have hK1 := va_K.moved hvm.symm hK1
    obtain ⟨hP, hD⟩ := va_join (wr := []) (w1 := [(h0, .inr (16, [.ref q_1, .ref q_12, .ref q_17, .ref q_22, .ref q_24, .ref q_26, .ref q_28, .ref q_29, .ref q_31, .ref q_33, .ref q_35, .int 0, .ref q_37, .ref q_39, .ref q_41, .ref q_43, .ref q_45, .ref q_47, .ref q_49, .ref q_51, .ref q_53, .ref q_55, .ref q_57, .int 0, .ref q_59, .ref q_61, .ref q_63, .int (-1), .int 0, .int 0, .int 0, .int 0, .ref q_65, .int 1, .ref q_68, .int 0, .int (-1), .int 0, .int 0, .ref q_70, .ref q_72]))]) hP hD [0] [] rfl rfl (by decide) (by decide) hk1 hFc hP1 hD1
    have hK := (hK.sub (tys' := []) [] rfl).app hK1
    generalize H1 = H at hP hS ⊢
    have hP : va_P (dC, dI) vwP [(h0, .inr (16, [.ref q_1, .ref q_12, .ref q_17, .ref q_22, .ref q_24, .ref q_26, .ref q_28, .ref q_29, .ref q_31, .ref q_33, .ref q_35, .int 0, .ref q_37, .ref q_39, .ref q_41, .ref q_43, .ref q_45, .ref q_47, .ref q_49, .ref q_51, .ref q_53, .ref q_55, .ref q_57, .int 0, .ref q_59, .ref q_61, .ref q_63, .int (-1), .int 0, .int 0, .int 0, .int 0, .ref q_65, .int 1, .ref q_68, .int 0, .int (-1), .int 0, .int 0, .ref q_70, .ref q_72]))] H := hP
    have hD : va_D A [(h0, .inr (16, [.ref q_1, .ref q_12, .ref q_17, .ref q_22, .ref q_24, .ref q_26, .ref q_28, .ref q_29, .ref q_31, .ref q_33, .ref q_35, .int 0, .ref q_37, .ref q_39, .ref q_41, .ref q_43, .ref q_45, .ref q_47, .ref q_49, .ref q_51, .ref q_53, .ref q_55, .ref q_57, .int 0, .ref q_59, .ref q_61, .ref q_63, .int (-1), .int 0, .int 0, .int 0, .int 0, .ref q_65, .int 1, .ref q_68, .int 0, .int (-1), .int 0, .int 0, .ref q_70, .ref q_72]))] := hD
    have hK : va_K (dC, dI) vwP [] s := hK
    refine W.widen (k := 0) (n := 0) (Nat.le_of_ble_eq_true rfl) (Nat.le_of_ble_eq_true rfl) ?_
    obtain rfl : r_2001 = 0 := hw
    have zb7 : p0.toInt < 1 := z_lt b7
    refine W.widen (k := 0) (n := 0) (Nat.le_of_ble_eq_true rfl) (Nat.le_of_ble_eq_true rfl) ?_
    exact W.iret (v := 0) hx hb hr (fun t ht hW => ⟨⟨0, (), rfl, (fun h9 => absurd ((show kf_pass p0 = 1 by unfold kf_pass; first | rfl | (split <;> first | rfl | (exfalso; omega))).symm.trans h9) (by decide)), 1, 0, (-1), 0, q_72, (show kf_pass p0 = 1 by unfold kf_pass; first | rfl | (split <;> first | rfl | (exfalso; omega))).symm, by rw [ht]; exact hP, va_K.moved hW.alike hK, hD⟩, hS.F ht⟩) hS.2.2 dX19_pass_21
  · refine lv_iload_n hx hb dX19_pass_10 rfl (lv_at hl 1 rfl) ?_
    refine lv_bipush (v := 7) hx hb dX19_pass_11 (by decide) ?_
    refine lv_icmp_le (tgt := 22) hx hb dX19_pass_13 (by decide) (fun b13 => ?_) (fun b13 => ?_)
    · refine lv_aload_n hx hb dX19_pass_22 rfl (lv_at hl 0 rfl) ?_
      refine va_get (D := (dC, dI)) (ci := 16) (v := .int (-1)) (C := RX19) (T := TX19) (N := 41) hx hb hts mem_X19_pass_0 hown hK hP 0 rfl rfl 36 (by decide) (ow (k := 5) rfl) (fun _ h9 => h9) rfl dX19_pass_23 ?_
      refine lv_iconst (v := 1) hx hb dX19_pass_26 (by decide) ?_
      refine lv_icmp_eq (tgt := 36) hx hb dX19_pass_27 (by decide) (fun h9 => absurd h9 (by decide)) (fun _ => ?_)
      refine lv_aload_n hx hb dX19_pass_30 rfl (lv_at hl 0 rfl) ?_
      refine lv_iconst (v := 2) hx hb dX19_pass_31 (by decide) ?_
      have hPc := hP.sub (ws' := [(h0, .inr (16, [.ref q_1, .ref q_12, .ref q_17, .ref q_22, .ref q_24, .ref q_26, .ref q_28, .ref q_29, .ref q_31, .ref q_33, .ref q_35, .int 0, .ref q_37, .ref q_39, .ref q_41, .ref q_43, .ref q_45, .ref q_47, .ref q_49, .ref q_51, .ref q_53, .ref q_55, .ref q_57, .int 0, .ref q_59, .ref q_61, .ref q_63, .int (-1), .int 0, .int 0, .int 0, .int 0, .ref q_65, .int 0, .ref q_68, .int 0, .int (-1), .int 0, .int 0, .ref q_70, .ref q_72]))]) [0] rfl
      have hDc := hD.sub (ws' := [(h0, .inr (16, [.ref q_1, .ref q_12, .ref q_17, .ref q_22, .ref q_24, .ref q_26, .ref q_28, .ref q_29, .ref q_31, .ref q_33, .ref q_35, .int 0, .ref q_37, .ref q_39, .ref q_41, .ref q_43, .ref q_45, .ref q_47, .ref q_49, .ref q_51, .ref q_53, .ref q_55, .ref q_57, .int 0, .ref q_59, .ref q_61, .ref q_63, .int (-1), .int 0, .int 0, .int 0, .int 0, .ref q_65, .int 0, .ref q_68, .int 0, .int (-1), .int 0, .int 0, .ref q_70, .ref q_72]))]) [0] (by decide) rfl
      have hKc := hK.sub (tys' := []) [] rfl
      have hFc := va_free (wc := [(h0, .inr (16, [.ref q_1, .ref q_12, .ref q_17, .ref q_22, .ref q_24, .ref q_26, .ref q_28, .ref q_29, .ref q_31, .ref q_33, .ref q_35, .int 0, .ref q_37, .ref q_39, .ref q_41, .ref q_43, .ref q_45, .ref q_47, .ref q_49, .ref q_51, .ref q_53, .ref q_55, .ref q_57, .int 0, .ref q_59, .ref q_61, .ref q_63, .int (-1), .int 0, .int 0, .int 0, .int 0, .ref q_65, .int 0, .ref q_68, .int 0, .int (-1), .int 0, .int 0, .ref q_70, .ref q_72]))]) hD hS hA [0] rfl
      refine va_calli (va_runV (As := [.int 2]) (rest := []) ⟨hx, hb, hml, hown, hts⟩ (c_X19_no l dC dI h0 q_1 q_12 q_17 q_22 q_24 q_26 q_28 q_29 q_31 q_33 q_35 q_37 q_39 q_41 q_43 q_45 q_47 q_49 q_51 q_53 q_55 q_57 q_59 q_61 q_63 q_65 q_68 q_70 q_72 2 H.size) (cwV 1 hts g_X19_pass_X19_no rfl rfl rfl (by decide +kernel) ⟨(Nat.le_of_ble_eq_true rfl), (Nat.le_of_ble_eq_true rfl)⟩) ⟨fun a U g mk q => by obtain ⟨q0, q1, qP, qK, qD⟩ := q; exact ⟨q0, q1, qP, va_K.moved (u := U) (U := U.calling g mk a) (Vm.Alike.refl U.vm) qK, qD⟩, va_recv hKc hPc (ci := 16) (q0 := 0) rfl rfl, fun U hU hW => ⟨rfl, by rw [hU], by rw [hU]; exact hPc, va_K.moved hW.alike hKc, hDc.weaken (fun _ _ _ _ => trivial)⟩⟩ rfl rfl hl.1 rfl (lv_room (Nat.le_of_ble_eq_true rfl)) dX19_pass_32 ⟨(Nat.le_of_ble_eq_true rfl), (Nat.le_of_ble_eq_true rfl)⟩) hS (fun q _ h => hFc q h) hFc (fun r_2002 u t H1 locs ht hvm hw hB hz1 hk1 hS => ?_)
      obtain ⟨hP1, hK1, hD1⟩ := hB
      rw [ht] at hP1
      have hK1 := va_K.moved hvm.symm hK1
      obtain ⟨hP, hD⟩ := va_join (wr := []) (w1 := [(h0, .inr (16, [.ref q_1, .ref q_12, .ref q_17, .ref q_22, .ref q_24, .ref q_26, .ref q_28, .ref q_29, .ref q_31, .ref q_33, .ref q_35, .int 0, .ref q_37, .ref q_39, .ref q_41, .ref q_43, .ref q_45, .ref q_47, .ref q_49, .ref q_51, .ref q_53, .ref q_55, .ref q_57, .int 0, .ref q_59, .ref q_61, .ref q_63, .int (-1), .int 0, .int 0, .int 0, .int 0, .ref q_65, .int 2, .ref q_68, .int 0, .int (-1), .int 0, .int 0, .ref q_70, .ref q_72]))]) hP hD [0] [] rfl rfl (by decide) (by decide) hk1 hFc hP1 hD1
      have hK := (hK.sub (tys' := []) [] rfl).app hK1
      generalize H1 = H at hP hS ⊢
      have hP : va_P (dC, dI) vwP [(h0, .inr (16, [.ref q_1, .ref q_12, .ref q_17, .ref q_22, .ref q_24, .ref q_26, .ref q_28, .ref q_29, .ref q_31, .ref q_33, .ref q_35, .int 0, .ref q_37, .ref q_39, .ref q_41, .ref q_43, .ref q_45, .ref q_47, .ref q_49, .ref q_51, .ref q_53, .ref q_55, .ref q_57, .int 0, .ref q_59, .ref q_61, .ref q_63, .int (-1), .int 0, .int 0, .int 0, .int 0, .ref q_65, .int 2, .ref q_68, .int 0, .int (-1), .int 0, .int 0, .ref q_70, .ref q_72]))] H := hP
      have hD : va_D A [(h0, .inr (16, [.ref q_1, .ref q_12, .ref q_17, .ref q_22, .ref q_24, .ref q_26, .ref q_28, .ref q_29, .ref q_31, .ref q_33, .ref q_35, .int 0, .ref q_37, .ref q_39, .ref q_41, .ref q_43, .ref q_45, .ref q_47, .ref q_49, .ref q_51, .ref q_53, .ref q_55, .ref q_57, .int 0, .ref q_59, .ref q_61, .ref q_63, .int (-1), .int 0, .int 0, .int 0, .int 0, .ref q_65, .int 2, .ref q_68, .int 0, .int (-1), .int 0, .int 0, .ref q_70, .ref q_72]))] := hD
      have hK : va_K (dC, dI) vwP [] s := hK
      refine W.widen (k := 0) (n := 0) (Nat.le_of_ble_eq_true rfl) (Nat.le_of_ble_eq_true rfl) ?_
      obtain rfl : r_2002 = 0 := hw
      have zb7 : 1 ≤ p0.toInt := z_nlt b7
      have zb13 : p0.toInt ≤ 7 := z_le b13
      refine W.widen (k := 0) (n := 0) (Nat.le_of_ble_eq_true rfl) (Nat.le_of_ble_eq_true rfl) ?_
      exact W.iret (v := 0) hx hb hr (fun t ht hW => ⟨⟨0, (), rfl, (fun h9 => absurd ((show kf_pass p0 = 2 by unfold kf_pass; first | rfl | (split <;> first | rfl | (exfalso; omega))).symm.trans h9) (by decide)), 2, 0, (-1), 0, q_72, (show kf_pass p0 = 2 by unfold kf_pass; first | rfl | (split <;> first | rfl | (exfalso; omega))).symm, by rw [ht]; exact hP, va_K.moved hW.alike hK, hD⟩, hS.F ht⟩) hS.2.2 dX19_pass_35
    · refine lv_aload_n hx hb dX19_pass_16 rfl (lv_at hl 0 rfl) ?_
      refine lv_iconst (v := 1) hx hb dX19_pass_17 (by decide) ?_
      have hPc := hP.sub (ws' := [(h0, .inr (16, [.ref q_1, .ref q_12, .ref q_17, .ref q_22, .ref q_24, .ref q_26, .ref q_28, .ref q_29, .ref q_31, .ref q_33, .ref q_35, .int 0, .ref q_37, .ref q_39, .ref q_41, .ref q_43, .ref q_45, .ref q_47, .ref q_49, .ref q_51, .ref q_53, .ref q_55, .ref q_57, .int 0, .ref q_59, .ref q_61, .ref q_63, .int (-1), .int 0, .int 0, .int 0, .int 0, .ref q_65, .int 0, .ref q_68, .int 0, .int (-1), .int 0, .int 0, .ref q_70, .ref q_72]))]) [0] rfl
      have hDc := hD.sub (ws' := [(h0, .inr (16, [.ref q_1, .ref q_12, .ref q_17, .ref q_22, .ref q_24, .ref q_26, .ref q_28, .ref q_29, .ref q_31, .ref q_33, .ref q_35, .int 0, .ref q_37, .ref q_39, .ref q_41, .ref q_43, .ref q_45, .ref q_47, .ref q_49, .ref q_51, .ref q_53, .ref q_55, .ref q_57, .int 0, .ref q_59, .ref q_61, .ref q_63, .int (-1), .int 0, .int 0, .int 0, .int 0, .ref q_65, .int 0, .ref q_68, .int 0, .int (-1), .int 0, .int 0, .ref q_70, .ref q_72]))]) [0] (by decide) rfl
      have hKc := hK.sub (tys' := []) [] rfl
      have hFc := va_free (wc := [(h0, .inr (16, [.ref q_1, .ref q_12, .ref q_17, .ref q_22, .ref q_24, .ref q_26, .ref q_28, .ref q_29, .ref q_31, .ref q_33, .ref q_35, .int 0, .ref q_37, .ref q_39, .ref q_41, .ref q_43, .ref q_45, .ref q_47, .ref q_49, .ref q_51, .ref q_53, .ref q_55, .ref q_57, .int 0, .ref q_59, .ref q_61, .ref q_63, .int (-1), .int 0, .int 0, .int 0, .int 0, .ref q_65, .int 0, .ref q_68, .int 0, .int (-1), .int 0, .int 0, .ref q_70, .ref q_72]))]) hD hS hA [0] rfl
      refine va_calli (va_runV (As := [.int 1]) (rest := []) ⟨hx, hb, hml, hown, hts⟩ (c_X19_no l dC dI h0 q_1 q_12 q_17 q_22 q_24 q_26 q_28 q_29 q_31 q_33 q_35 q_37 q_39 q_41 q_43 q_45 q_47 q_49 q_51 q_53 q_55 q_57 q_59 q_61 q_63 q_65 q_68 q_70 q_72 1 H.size) (cwV 1 hts g_X19_pass_X19_no rfl rfl rfl (by decide +kernel) ⟨(Nat.le_of_ble_eq_true rfl), (Nat.le_of_ble_eq_true rfl)⟩) ⟨fun a U g mk q => by obtain ⟨q0, q1, qP, qK, qD⟩ := q; exact ⟨q0, q1, qP, va_K.moved (u := U) (U := U.calling g mk a) (Vm.Alike.refl U.vm) qK, qD⟩, va_recv hKc hPc (ci := 16) (q0 := 0) rfl rfl, fun U hU hW => ⟨rfl, by rw [hU], by rw [hU]; exact hPc, va_K.moved hW.alike hKc, hDc.weaken (fun _ _ _ _ => trivial)⟩⟩ rfl rfl hl.1 rfl (lv_room (Nat.le_of_ble_eq_true rfl)) dX19_pass_18 ⟨(Nat.le_of_ble_eq_true rfl), (Nat.le_of_ble_eq_true rfl)⟩) hS (fun q _ h => hFc q h) hFc (fun r_2003 u t H1 locs ht hvm hw hB hz1 hk1 hS => ?_)
      obtain ⟨hP1, hK1, hD1⟩ := hB
      rw [ht] at hP1
      have hK1 := va_K.moved hvm.symm hK1
      obtain ⟨hP, hD⟩ := va_join (wr := []) (w1 := [(h0, .inr (16, [.ref q_1, .ref q_12, .ref q_17, .ref q_22, .ref q_24, .ref q_26, .ref q_28, .ref q_29, .ref q_31, .ref q_33, .ref q_35, .int 0, .ref q_37, .ref q_39, .ref q_41, .ref q_43, .ref q_45, .ref q_47, .ref q_49, .ref q_51, .ref q_53, .ref q_55, .ref q_57, .int 0, .ref q_59, .ref q_61, .ref q_63, .int (-1), .int 0, .int 0, .int 0, .int 0, .ref q_65, .int 1, .ref q_68, .int 0, .int (-1), .int 0, .int 0, .ref q_70, .ref q_72]))]) hP hD [0] [] rfl rfl (by decide) (by decide) hk1 hFc hP1 hD1
      have hK := (hK.sub (tys' := []) [] rfl).app hK1
      generalize H1 = H at hP hS ⊢
      have hP : va_P (dC, dI) vwP [(h0, .inr (16, [.ref q_1, .ref q_12, .ref q_17, .ref q_22, .ref q_24, .ref q_26, .ref q_28, .ref q_29, .ref q_31, .ref q_33, .ref q_35, .int 0, .ref q_37, .ref q_39, .ref q_41, .ref q_43, .ref q_45, .ref q_47, .ref q_49, .ref q_51, .ref q_53, .ref q_55, .ref q_57, .int 0, .ref q_59, .ref q_61, .ref q_63, .int (-1), .int 0, .int 0, .int 0, .int 0, .ref q_65, .int 1, .ref q_68, .int 0, .int (-1), .int 0, .int 0, .ref q_70, .ref q_72]))] H := hP
      have hD : va_D A [(h0, .inr (16, [.ref q_1, .ref q_12, .ref q_17, .ref q_22, .ref q_24, .ref q_26, .ref q_28, .ref q_29, .ref q_31, .ref q_33, .ref q_35, .int 0, .ref q_37, .ref q_39, .ref q_41, .ref q_43, .ref q_45, .ref q_47, .ref q_49, .ref q_51, .ref q_53, .ref q_55, .ref q_57, .int 0, .ref q_59, .ref q_61, .ref q_63, .int (-1), .int 0, .int 0, .int 0, .int 0, .ref q_65, .int 1, .ref q_68, .int 0, .int (-1), .int 0, .int 0, .ref q_70, .ref q_72]))] := hD
      have hK : va_K (dC, dI) vwP [] s := hK
      refine W.widen (k := 0) (n := 0) (Nat.le_of_ble_eq_true rfl) (Nat.le_of_ble_eq_true rfl) ?_
      obtain rfl : r_2003 = 0 := hw
      have zb7 : 1 ≤ p0.toInt := z_nlt b7
      have zb13 : 7 < p0.toInt := z_nle b13
      refine W.widen (k := 0) (n := 0) (Nat.le_of_ble_eq_true rfl) (Nat.le_of_ble_eq_true rfl) ?_
      exact W.iret (v := 0) hx hb hr (fun t ht hW => ⟨⟨0, (), rfl, (fun h9 => absurd ((show kf_pass p0 = 1 by unfold kf_pass; first | rfl | (split <;> first | rfl | (exfalso; omega))).symm.trans h9) (by decide)), 1, 0, (-1), 0, q_72, (show kf_pass p0 = 1 by unfold kf_pass; first | rfl | (split <;> first | rfl | (exfalso; omega))).symm, by rw [ht]; exact hP, va_K.moved hW.alike hK, hD⟩, hS.F ht⟩) hS.2.2 dX19_pass_21
theorem dX19_plain_0 : decode cX19_plain 0 = .ok (.aload_n 0, 1) := by decide +kernel
theorem dX19_plain_1 : decode cX19_plain 1 = .ok (.iconst 0, 1) := by decide +kernel
theorem dX19_plain_2 : decode cX19_plain 2 = .ok (.putfield 560, 3) := by decide +kernel
theorem dX19_plain_5 : decode cX19_plain 5 = .ok (.aload_n 0, 1) := by decide +kernel
theorem dX19_plain_6 : decode cX19_plain 6 = .ok (.getfield 555, 3) := by decide +kernel
theorem dX19_plain_9 : decode cX19_plain 9 = .ok (.iconst 1, 1) := by decide +kernel
theorem dX19_plain_10 : decode cX19_plain 10 = .ok (.if_icmp .ge 9, 3) := by decide +kernel
theorem dX19_plain_13 : decode cX19_plain 13 = .ok (.aload_n 0, 1) := by decide +kernel
theorem dX19_plain_14 : decode cX19_plain 14 = .ok (.iconst 1, 1) := by decide +kernel
theorem dX19_plain_15 : decode cX19_plain 15 = .ok (.invokevirtual 565, 3) := by decide +kernel
theorem dX19_plain_18 : decode cX19_plain 18 = .ok (.ireturn, 1) := by decide +kernel
def o_X19_plain : List Cond := [.fieldLink RX19 560 "SsaForgeModel" "thrown" "I", .fieldLink RX19 555 "SsaForgeModel" "form" "I", .methodLink RX19 565 yX19_no, .instanceMethod yX19_no, .selects RX19 yX19_no yX19_no, .initialized RX19]
def v_X19_plain : List Cond := .code yX19_plain cX19_plain 2 (some .int) :: (o_X19_plain ++ (wsX190 ++ (v_X19_no ++ [])))
theorem mow_X19_plain : ∀ w ∈ o_X19_plain, w ∈ v_X19_plain := fun _ h => List.mem_cons_of_mem _ (List.mem_append_left _ h)
theorem mem_X19_plain_0 : ∀ w ∈ wsX190, w ∈ v_X19_plain := fun _ h => List.mem_cons_of_mem _ (List.mem_append_right _ (List.mem_append_left _ h))
theorem mem_X19_plain_1 : ∀ w ∈ v_X19_no, w ∈ v_X19_plain := fun _ h => List.mem_cons_of_mem _ (List.mem_append_right _ (List.mem_append_right _ (List.mem_append_left _ h)))
set_option maxRecDepth 20000 in
theorem gw_X19_plain : v_X19_plain.all goodWord = true := by decide +kernel
set_option maxRecDepth 20000 in
theorem g_X19_plain_X19_no : GoodIn v_X19_plain (wsV RX19 565 RX19 yX19_no v_X19_no) := goodIn_app (goodIn_sub (fun w h => mow_X19_plain w (by revert w h; decide +kernel)) (by decide +kernel)) (goodIn_sub mem_X19_plain_1 gw_X19_no)
set_option maxHeartbeats 4000000 in
set_option maxRecDepth 100000 in
theorem c_X19_plain (l : Launch) (dC : Nat → ClassId) (dI : Nat → Nat → Nat) (h0 : Nat) (q_1 : Nat) (q_12 : Nat) (q_17 : Nat) (q_22 : Nat) (q_24 : Nat) (q_26 : Nat) (q_28 : Nat) (q_29 : Nat) (q_31 : Nat) (q_33 : Nat) (q_35 : Nat) (q_37 : Nat) (q_39 : Nat) (q_41 : Nat) (q_43 : Nat) (q_45 : Nat) (q_47 : Nat) (q_49 : Nat) (q_51 : Nat) (q_53 : Nat) (q_55 : Nat) (q_57 : Nat) (q_59 : Nat) (q_61 : Nat) (q_63 : Nat) (q_65 : Nat) (q_68 : Nat) (q_70 : Nat) (q_72 : Nat) (sz : Nat) : Met l yX19_plain v_X19_plain ({ frames := 1, cells := 0, slots := 0, locals := 21 }) (va_Pc [.ref h0] (fun U => U.heap.size = sz ∧ va_P (dC, dI) vwP [(h0, .inr (16, [.ref q_1, .ref q_12, .ref q_17, .ref q_22, .ref q_24, .ref q_26, .ref q_28, .ref q_29, .ref q_31, .ref q_33, .ref q_35, .int 0, .ref q_37, .ref q_39, .ref q_41, .ref q_43, .ref q_45, .ref q_47, .ref q_49, .ref q_51, .ref q_53, .ref q_55, .ref q_57, .int 0, .ref q_59, .ref q_61, .ref q_63, .int (-1), .int 0, .int 0, .int 0, .int 0, .ref q_65, .int 0, .ref q_68, .int 0, .int (-1), .int 0, .int 0, .ref q_70, .ref q_72]))] U.heap ∧ va_K (dC, dI) vwP [] U ∧ va_D (fun _ => True) [(h0, .inr (16, [.ref q_1, .ref q_12, .ref q_17, .ref q_22, .ref q_24, .ref q_26, .ref q_28, .ref q_29, .ref q_31, .ref q_33, .ref q_35, .int 0, .ref q_37, .ref q_39, .ref q_41, .ref q_43, .ref q_45, .ref q_47, .ref q_49, .ref q_51, .ref q_53, .ref q_55, .ref q_57, .int 0, .ref q_59, .ref q_61, .ref q_63, .int (-1), .int 0, .int 0, .int 0, .int 0, .ref q_65, .int 0, .ref q_68, .int 0, .int (-1), .int 0, .int 0, .ref q_70, .ref q_72]))])) (va_Qi (fun (r : Int32) (_ : Unit) => kf_plain = 0 → r = vf_plain) (fun (_ : Unit) (t : State) => ∃ (i_33 : Int32) (i_35 : Int32) (i_36 : Int32) (i_37 : Int32) (q_940 : Nat), (i_33 = kf_plain) ∧ va_P (dC, dI) vwP [(h0, .inr (16, [.ref q_1, .ref q_12, .ref q_17, .ref q_22, .ref q_24, .ref q_26, .ref q_28, .ref q_29, .ref q_31, .ref q_33, .ref q_35, .int 0, .ref q_37, .ref q_39, .ref q_41, .ref q_43, .ref q_45, .ref q_47, .ref q_49, .ref q_51, .ref q_53, .ref q_55, .ref q_57, .int 0, .ref q_59, .ref q_61, .ref q_63, .int (-1), .int 0, .int 0, .int 0, .int 0, .ref q_65, .int i_33, .ref q_68, .int i_35, .int i_36, .int i_37, .int 0, .ref q_70, .ref q_940]))] t.heap ∧ va_K (dC, dI) vwP [] t ∧ va_D (va_A [(h0, .inr (16, [.ref q_1, .ref q_12, .ref q_17, .ref q_22, .ref q_24, .ref q_26, .ref q_28, .ref q_29, .ref q_31, .ref q_33, .ref q_35, .int 0, .ref q_37, .ref q_39, .ref q_41, .ref q_43, .ref q_45, .ref q_47, .ref q_49, .ref q_51, .ref q_53, .ref q_55, .ref q_57, .int 0, .ref q_59, .ref q_61, .ref q_63, .int (-1), .int 0, .int 0, .int 0, .int 0, .ref q_65, .int 0, .ref q_68, .int 0, .int (-1), .int 0, .int 0, .ref q_70, .ref q_72]))] sz) [(h0, .inr (16, [.ref q_1, .ref q_12, .ref q_17, .ref q_22, .ref q_24, .ref q_26, .ref q_28, .ref q_29, .ref q_31, .ref q_33, .ref q_35, .int 0, .ref q_37, .ref q_39, .ref q_41, .ref q_43, .ref q_45, .ref q_47, .ref q_49, .ref q_51, .ref q_53, .ref q_55, .ref q_57, .int 0, .ref q_59, .ref q_61, .ref q_63, .int (-1), .int 0, .int 0, .int 0, .int 0, .ref q_65, .int i_33, .ref q_68, .int i_35, .int i_36, .int i_37, .int 0, .ref q_70, .ref q_940]))]) (va_A [(h0, .inr (16, [.ref q_1, .ref q_12, .ref q_17, .ref q_22, .ref q_24, .ref q_26, .ref q_28, .ref q_29, .ref q_31, .ref q_33, .ref q_35, .int 0, .ref q_37, .ref q_39, .ref q_41, .ref q_43, .ref q_45, .ref q_47, .ref q_49, .ref q_51, .ref q_53, .ref q_55, .ref q_57, .int 0, .ref q_59, .ref q_61, .ref q_63, .int (-1), .int 0, .int 0, .int 0, .int 0, .ref q_65, .int 0, .ref q_68, .int 0, .int (-1), .int 0, .int 0, .ref q_70, .ref q_72]))] sz)) 0 0 (va_A [(h0, .inr (16, [.ref q_1, .ref q_12, .ref q_17, .ref q_22, .ref q_24, .ref q_26, .ref q_28, .ref q_29, .ref q_31, .ref q_33, .ref q_35, .int 0, .ref q_37, .ref q_39, .ref q_41, .ref q_43, .ref q_45, .ref q_47, .ref q_49, .ref q_51, .ref q_53, .ref q_55, .ref q_57, .int 0, .ref q_59, .ref q_61, .ref q_63, .int (-1), .int 0, .int 0, .int 0, .int 0, .ref q_65, .int 0, .ref q_68, .int 0, .int (-1), .int 0, .int 0, .ref q_70, .ref q_72]))] sz) := by
  refine Met.ofW (cc := cX19_plain) (maxL := 2) (ret := (some .int)) (by decide) rfl ?_
  intro p e s m args below meth c s₁ B hml hv
  obtain ⟨rfl, hsz, hP, hK, hD0⟩ := hv
  have hx := B.exec
  have hb := B.bytes
  have hr := B.returns
  have hts := atoms_spec (ws := v_X19_plain) B.pre
  have hown : s.vm.findClass RX19 = some m.cls := findClass_of_methodNamed B.named
  have hlocks := B.notSynchronized
  have ow : ∀ {k : Nat} {w : Cond}, o_X19_plain[k]? = some w → w.before ([.ref h0] : List Value).toArray s = true := fun h => hts _ (mow_X19_plain _ (List.mem_of_getElem? h))
  subst hsz
  have hD := hD0.self (sz := s.heap.size)
  generalize hAe : va_A [(h0, .inr (16, [.ref q_1, .ref q_12, .ref q_17, .ref q_22, .ref q_24, .ref q_26, .ref q_28, .ref q_29, .ref q_31, .ref q_33, .ref q_35, .int 0, .ref q_37, .ref q_39, .ref q_41, .ref q_43, .ref q_45, .ref q_47, .ref q_49, .ref q_51, .ref q_53, .ref q_55, .ref q_57, .int 0, .ref q_59, .ref q_61, .ref q_63, .int (-1), .int 0, .int 0, .int 0, .int 0, .ref q_65, .int 0, .ref q_68, .int 0, .int (-1), .int 0, .int 0, .ref q_70, .ref q_72]))] s.heap.size = A at hD ⊢
  have hA : ∀ q : Nat, s.heap.size ≤ q → A q := fun q h => by rw [← hAe]; exact Or.inr h
  have hS : va_S A s.heap s.heap [] := va_S.rf
  have hP : va_P (dC, dI) vwP [(h0, .inr (16, [.ref q_1, .ref q_12, .ref q_17, .ref q_22, .ref q_24, .ref q_26, .ref q_28, .ref q_29, .ref q_31, .ref q_33, .ref q_35, .int 0, .ref q_37, .ref q_39, .ref q_41, .ref q_43, .ref q_45, .ref q_47, .ref q_49, .ref q_51, .ref q_53, .ref q_55, .ref q_57, .int 0, .ref q_59, .ref q_61, .ref q_63, .int (-1), .int 0, .int 0, .int 0, .int 0, .ref q_65, .int 0, .ref q_68, .int 0, .int (-1), .int 0, .int 0, .ref q_70, .ref q_72]))] s.heap := hP
  have hl := lv_entry ([.ref h0]) (n := 2) (Nat.le_of_ble_eq_true rfl)
  rw [lg_entry_eq]
  generalize (lg_sl ([.ref h0]) ++ List.replicate (2 - (lg_sl ([.ref h0])).length) Slot.unset).toArray = ls at hl ⊢
  have hl : lv_has ls 2 [(0, .ref h0)] := hl
  obtain ⟨H, hH⟩ : ∃ H, H = s.heap := ⟨_, rfl⟩
  rw [← hH] at hP
  have hS : va_S A s.heap H [] := by rw [hH]; exact hS
  rw [← hH]
  refine lv_aload_n hx hb dX19_plain_0 rfl (lv_at hl 0 rfl) ?_
  refine lv_iconst (v := 0) hx hb dX19_plain_1 (by decide) ?_
  refine va_put (D := (dC, dI)) (ci := 16) (v := .int 0) (ty := .int) (C := RX19) (T := TX19) (N := 41) hx hb hts mem_X19_plain_0 tyX19 tyX19_ok nmX19 hown hK hP hD hS 0 rfl rfl 33 (by decide) (ow (k := 0) rfl) (fun _ h9 => h9) rfl (by decide +kernel) rfl rfl (Nat.le_of_ble_eq_true rfl) dX19_plain_2 (fun H locs hP hD hS => ?_)
  have hP : va_P (dC, dI) vwP [(h0, .inr (16, [.ref q_1, .ref q_12, .ref q_17, .ref q_22, .ref q_24, .ref q_26, .ref q_28, .ref q_29, .ref q_31, .ref q_33, .ref q_35, .int 0, .ref q_37, .ref q_39, .ref q_41, .ref q_43, .ref q_45, .ref q_47, .ref q_49, .ref q_51, .ref q_53, .ref q_55, .ref q_57, .int 0, .ref q_59, .ref q_61, .ref q_63, .int (-1), .int 0, .int 0, .int 0, .int 0, .ref q_65, .int 0, .ref q_68, .int 0, .int (-1), .int 0, .int 0, .ref q_70, .ref q_72]))] H := hP
  have hD : va_D A [(h0, .inr (16, [.ref q_1, .ref q_12, .ref q_17, .ref q_22, .ref q_24, .ref q_26, .ref q_28, .ref q_29, .ref q_31, .ref q_33, .ref q_35, .int 0, .ref q_37, .ref q_39, .ref q_41, .ref q_43, .ref q_45, .ref q_47, .ref q_49, .ref q_51, .ref q_53, .ref q_55, .ref q_57, .int 0, .ref q_59, .ref q_61, .ref q_63, .int (-1), .int 0, .int 0, .int 0, .int 0, .ref q_65, .int 0, .ref q_68, .int 0, .int (-1), .int 0, .int 0, .ref q_70, .ref q_72]))] := hD
  refine lv_aload_n hx hb dX19_plain_5 rfl (lv_at hl 0 rfl) ?_
  refine va_get (D := (dC, dI)) (ci := 16) (v := .int (-1)) (C := RX19) (T := TX19) (N := 41) hx hb hts mem_X19_plain_0 hown hK hP 0 rfl rfl 36 (by decide) (ow (k := 1) rfl) (fun _ h9 => h9) rfl dX19_plain_6 ?_
  refine lv_iconst (v := 1) hx hb dX19_plain_9 (by decide) ?_
  refine lv_icmp_ge (tgt := 19) hx hb dX19_plain_10 (by decide) (fun h9 => absurd h9 (by decide)) (fun _ => ?_)
  refine lv_aload_n hx hb dX19_plain_13 rfl (lv_at hl 0 rfl) ?_
  refine lv_iconst (v := 1) hx hb dX19_plain_14 (by decide) ?_
  have hPc := hP.sub (ws' := [(h0, .inr (16, [.ref q_1, .ref q_12, .ref q_17, .ref q_22, .ref q_24, .ref q_26, .ref q_28, .ref q_29, .ref q_31, .ref q_33, .ref q_35, .int 0, .ref q_37, .ref q_39, .ref q_41, .ref q_43, .ref q_45, .ref q_47, .ref q_49, .ref q_51, .ref q_53, .ref q_55, .ref q_57, .int 0, .ref q_59, .ref q_61, .ref q_63, .int (-1), .int 0, .int 0, .int 0, .int 0, .ref q_65, .int 0, .ref q_68, .int 0, .int (-1), .int 0, .int 0, .ref q_70, .ref q_72]))]) [0] rfl
  have hDc := hD.sub (ws' := [(h0, .inr (16, [.ref q_1, .ref q_12, .ref q_17, .ref q_22, .ref q_24, .ref q_26, .ref q_28, .ref q_29, .ref q_31, .ref q_33, .ref q_35, .int 0, .ref q_37, .ref q_39, .ref q_41, .ref q_43, .ref q_45, .ref q_47, .ref q_49, .ref q_51, .ref q_53, .ref q_55, .ref q_57, .int 0, .ref q_59, .ref q_61, .ref q_63, .int (-1), .int 0, .int 0, .int 0, .int 0, .ref q_65, .int 0, .ref q_68, .int 0, .int (-1), .int 0, .int 0, .ref q_70, .ref q_72]))]) [0] (by decide) rfl
  have hKc := hK.sub (tys' := []) [] rfl
  have hFc := va_free (wc := [(h0, .inr (16, [.ref q_1, .ref q_12, .ref q_17, .ref q_22, .ref q_24, .ref q_26, .ref q_28, .ref q_29, .ref q_31, .ref q_33, .ref q_35, .int 0, .ref q_37, .ref q_39, .ref q_41, .ref q_43, .ref q_45, .ref q_47, .ref q_49, .ref q_51, .ref q_53, .ref q_55, .ref q_57, .int 0, .ref q_59, .ref q_61, .ref q_63, .int (-1), .int 0, .int 0, .int 0, .int 0, .ref q_65, .int 0, .ref q_68, .int 0, .int (-1), .int 0, .int 0, .ref q_70, .ref q_72]))]) hD hS hA [0] rfl
  refine va_calli (va_runV (As := [.int 1]) (rest := []) ⟨hx, hb, hml, hown, hts⟩ (c_X19_no l dC dI h0 q_1 q_12 q_17 q_22 q_24 q_26 q_28 q_29 q_31 q_33 q_35 q_37 q_39 q_41 q_43 q_45 q_47 q_49 q_51 q_53 q_55 q_57 q_59 q_61 q_63 q_65 q_68 q_70 q_72 1 H.size) (cwV 1 hts g_X19_plain_X19_no rfl rfl rfl (by decide +kernel) ⟨(Nat.le_of_ble_eq_true rfl), (Nat.le_of_ble_eq_true rfl)⟩) ⟨fun a U g mk q => by obtain ⟨q0, q1, qP, qK, qD⟩ := q; exact ⟨q0, q1, qP, va_K.moved (u := U) (U := U.calling g mk a) (Vm.Alike.refl U.vm) qK, qD⟩, va_recv hKc hPc (ci := 16) (q0 := 0) rfl rfl, fun U hU hW => ⟨rfl, by rw [hU], by rw [hU]; exact hPc, va_K.moved hW.alike hKc, hDc.weaken (fun _ _ _ _ => trivial)⟩⟩ rfl rfl hl.1 rfl (lv_room (Nat.le_of_ble_eq_true rfl)) dX19_plain_15 ⟨(Nat.le_of_ble_eq_true rfl), (Nat.le_of_ble_eq_true rfl)⟩) hS (fun q _ h => hFc q h) hFc (fun r_2001 u t H1 locs ht hvm hw hB hz1 hk1 hS => ?_)
  obtain ⟨hP1, hK1, hD1⟩ := hB
  rw [ht] at hP1
  have hK1 := va_K.moved hvm.symm hK1
  obtain ⟨hP, hD⟩ := va_join (wr := []) (w1 := [(h0, .inr (16, [.ref q_1, .ref q_12, .ref q_17, .ref q_22, .ref q_24, .ref q_26, .ref q_28, .ref q_29, .ref q_31, .ref q_33, .ref q_35, .int 0, .ref q_37, .ref q_39, .ref q_41, .ref q_43, .ref q_45, .ref q_47, .ref q_49, .ref q_51, .ref q_53, .ref q_55, .ref q_57, .int 0, .ref q_59, .ref q_61, .ref q_63, .int (-1), .int 0, .int 0, .int 0, .int 0, .ref q_65, .int 1, .ref q_68, .int 0, .int (-1), .int 0, .int 0, .ref q_70, .ref q_72]))]) hP hD [0] [] rfl rfl (by decide) (by decide) hk1 hFc hP1 hD1
  have hK := (hK.sub (tys' := []) [] rfl).app hK1
  generalize H1 = H at hP hS ⊢
  have hP : va_P (dC, dI) vwP [(h0, .inr (16, [.ref q_1, .ref q_12, .ref q_17, .ref q_22, .ref q_24, .ref q_26, .ref q_28, .ref q_29, .ref q_31, .ref q_33, .ref q_35, .int 0, .ref q_37, .ref q_39, .ref q_41, .ref q_43, .ref q_45, .ref q_47, .ref q_49, .ref q_51, .ref q_53, .ref q_55, .ref q_57, .int 0, .ref q_59, .ref q_61, .ref q_63, .int (-1), .int 0, .int 0, .int 0, .int 0, .ref q_65, .int 1, .ref q_68, .int 0, .int (-1), .int 0, .int 0, .ref q_70, .ref q_72]))] H := hP
  have hD : va_D A [(h0, .inr (16, [.ref q_1, .ref q_12, .ref q_17, .ref q_22, .ref q_24, .ref q_26, .ref q_28, .ref q_29, .ref q_31, .ref q_33, .ref q_35, .int 0, .ref q_37, .ref q_39, .ref q_41, .ref q_43, .ref q_45, .ref q_47, .ref q_49, .ref q_51, .ref q_53, .ref q_55, .ref q_57, .int 0, .ref q_59, .ref q_61, .ref q_63, .int (-1), .int 0, .int 0, .int 0, .int 0, .ref q_65, .int 1, .ref q_68, .int 0, .int (-1), .int 0, .int 0, .ref q_70, .ref q_72]))] := hD
  have hK : va_K (dC, dI) vwP [] s := hK
  refine W.widen (k := 0) (n := 0) (Nat.le_of_ble_eq_true rfl) (Nat.le_of_ble_eq_true rfl) ?_
  obtain rfl : r_2001 = 0 := hw
  refine W.widen (k := 0) (n := 0) (Nat.le_of_ble_eq_true rfl) (Nat.le_of_ble_eq_true rfl) ?_
  exact W.iret (v := 0) hx hb hr (fun t ht hW => ⟨⟨0, (), rfl, (fun h9 => absurd ((show kf_plain = 1 by unfold kf_plain; first | rfl | (split <;> first | rfl | (exfalso; omega))).symm.trans h9) (by decide)), 1, 0, (-1), 0, q_72, (show kf_plain = 1 by unfold kf_plain; first | rfl | (split <;> first | rfl | (exfalso; omega))).symm, by rw [ht]; exact hP, va_K.moved hW.alike hK, hD⟩, hS.F ht⟩) hS.2.2 dX19_plain_18
theorem dX19_run__0 : decode cX19_run_ 0 = .ok (.aload_n 0, 1) := by decide +kernel
theorem dX19_run__1 : decode cX19_run_ 1 = .ok (.iconst 0, 1) := by decide +kernel
theorem dX19_run__2 : decode cX19_run_ 2 = .ok (.putfield 560, 3) := by decide +kernel
theorem dX19_run__5 : decode cX19_run_ 5 = .ok (.iload_n 1, 1) := by decide +kernel
theorem dX19_run__6 : decode cX19_run_ 6 = .ok (.iconst 1, 1) := by decide +kernel
theorem dX19_run__7 : decode cX19_run_ 7 = .ok (.if_icmp .lt 10, 3) := by decide +kernel
theorem dX19_run__17 : decode cX19_run_ 17 = .ok (.aload_n 0, 1) := by decide +kernel
theorem dX19_run__18 : decode cX19_run_ 18 = .ok (.iconst 1, 1) := by decide +kernel
theorem dX19_run__19 : decode cX19_run_ 19 = .ok (.invokevirtual 565, 3) := by decide +kernel
theorem dX19_run__22 : decode cX19_run_ 22 = .ok (.ireturn, 1) := by decide +kernel
theorem dX19_run__10 : decode cX19_run_ 10 = .ok (.iload_n 1, 1) := by decide +kernel
theorem dX19_run__11 : decode cX19_run_ 11 = .ok (.ldc_w 628, 3) := by decide +kernel
theorem dX19_run__14 : decode cX19_run_ 14 = .ok (.if_icmp .le 9, 3) := by decide +kernel
theorem dX19_run__23 : decode cX19_run_ 23 = .ok (.aload_n 0, 1) := by decide +kernel
theorem dX19_run__24 : decode cX19_run_ 24 = .ok (.getfield 555, 3) := by decide +kernel
theorem dX19_run__27 : decode cX19_run_ 27 = .ok (.ifCond .ge 9, 3) := by decide +kernel
theorem dX19_run__30 : decode cX19_run_ 30 = .ok (.aload_n 0, 1) := by decide +kernel
theorem dX19_run__31 : decode cX19_run_ 31 = .ok (.iconst 2, 1) := by decide +kernel
theorem dX19_run__32 : decode cX19_run_ 32 = .ok (.invokevirtual 565, 3) := by decide +kernel
theorem dX19_run__35 : decode cX19_run_ 35 = .ok (.ireturn, 1) := by decide +kernel
def o_X19_run_ : List Cond := [.fieldLink RX19 560 "SsaForgeModel" "thrown" "I", .methodLink RX19 565 yX19_no, .instanceMethod yX19_no, .selects RX19 yX19_no yX19_no, .initialized RX19, .constant RX19 628 (100000), .fieldLink RX19 555 "SsaForgeModel" "form" "I"]
def v_X19_run_ : List Cond := .code yX19_run_ cX19_run_ 2 (some .int) :: (o_X19_run_ ++ (wsX190 ++ (v_X19_no ++ [])))
theorem mow_X19_run_ : ∀ w ∈ o_X19_run_, w ∈ v_X19_run_ := fun _ h => List.mem_cons_of_mem _ (List.mem_append_left _ h)
theorem mem_X19_run__0 : ∀ w ∈ wsX190, w ∈ v_X19_run_ := fun _ h => List.mem_cons_of_mem _ (List.mem_append_right _ (List.mem_append_left _ h))
theorem mem_X19_run__1 : ∀ w ∈ v_X19_no, w ∈ v_X19_run_ := fun _ h => List.mem_cons_of_mem _ (List.mem_append_right _ (List.mem_append_right _ (List.mem_append_left _ h)))
set_option maxRecDepth 20000 in
theorem gw_X19_run_ : v_X19_run_.all goodWord = true := by decide +kernel
set_option maxRecDepth 20000 in
theorem g_X19_run__X19_no : GoodIn v_X19_run_ (wsV RX19 565 RX19 yX19_no v_X19_no) := goodIn_app (goodIn_sub (fun w h => mow_X19_run_ w (by revert w h; decide +kernel)) (by decide +kernel)) (goodIn_sub mem_X19_run__1 gw_X19_no)
set_option maxHeartbeats 4000000 in
set_option maxRecDepth 100000 in
theorem c_X19_run_ (l : Launch) (dC : Nat → ClassId) (dI : Nat → Nat → Nat) (h0 : Nat) (q_1 : Nat) (q_12 : Nat) (q_17 : Nat) (q_22 : Nat) (q_24 : Nat) (q_26 : Nat) (q_28 : Nat) (q_29 : Nat) (q_31 : Nat) (q_33 : Nat) (q_35 : Nat) (q_37 : Nat) (q_39 : Nat) (q_41 : Nat) (q_43 : Nat) (q_45 : Nat) (q_47 : Nat) (q_49 : Nat) (q_51 : Nat) (q_53 : Nat) (q_55 : Nat) (q_57 : Nat) (q_59 : Nat) (q_61 : Nat) (q_63 : Nat) (q_65 : Nat) (q_68 : Nat) (q_70 : Nat) (q_72 : Nat) (p0 : Int32) (sz : Nat) : Met l yX19_run_ v_X19_run_ ({ frames := 1, cells := 0, slots := 0, locals := 21 }) (va_Pc [.ref h0, .int p0] (fun U => U.heap.size = sz ∧ va_P (dC, dI) vwP [(h0, .inr (16, [.ref q_1, .ref q_12, .ref q_17, .ref q_22, .ref q_24, .ref q_26, .ref q_28, .ref q_29, .ref q_31, .ref q_33, .ref q_35, .int 0, .ref q_37, .ref q_39, .ref q_41, .ref q_43, .ref q_45, .ref q_47, .ref q_49, .ref q_51, .ref q_53, .ref q_55, .ref q_57, .int 0, .ref q_59, .ref q_61, .ref q_63, .int (-1), .int 0, .int 0, .int 0, .int 0, .ref q_65, .int 0, .ref q_68, .int 0, .int (-1), .int 0, .int 0, .ref q_70, .ref q_72]))] U.heap ∧ va_K (dC, dI) vwP [] U ∧ va_D (fun _ => True) [(h0, .inr (16, [.ref q_1, .ref q_12, .ref q_17, .ref q_22, .ref q_24, .ref q_26, .ref q_28, .ref q_29, .ref q_31, .ref q_33, .ref q_35, .int 0, .ref q_37, .ref q_39, .ref q_41, .ref q_43, .ref q_45, .ref q_47, .ref q_49, .ref q_51, .ref q_53, .ref q_55, .ref q_57, .int 0, .ref q_59, .ref q_61, .ref q_63, .int (-1), .int 0, .int 0, .int 0, .int 0, .ref q_65, .int 0, .ref q_68, .int 0, .int (-1), .int 0, .int 0, .ref q_70, .ref q_72]))])) (va_Qi (fun (r : Int32) (_ : Unit) => kf_run p0 = 0 → r = vf_run) (fun (_ : Unit) (t : State) => ∃ (i_33 : Int32) (i_35 : Int32) (i_36 : Int32) (i_37 : Int32) (q_940 : Nat), (i_33 = kf_run p0) ∧ va_P (dC, dI) vwP [(h0, .inr (16, [.ref q_1, .ref q_12, .ref q_17, .ref q_22, .ref q_24, .ref q_26, .ref q_28, .ref q_29, .ref q_31, .ref q_33, .ref q_35, .int 0, .ref q_37, .ref q_39, .ref q_41, .ref q_43, .ref q_45, .ref q_47, .ref q_49, .ref q_51, .ref q_53, .ref q_55, .ref q_57, .int 0, .ref q_59, .ref q_61, .ref q_63, .int (-1), .int 0, .int 0, .int 0, .int 0, .ref q_65, .int i_33, .ref q_68, .int i_35, .int i_36, .int i_37, .int 0, .ref q_70, .ref q_940]))] t.heap ∧ va_K (dC, dI) vwP [] t ∧ va_D (va_A [(h0, .inr (16, [.ref q_1, .ref q_12, .ref q_17, .ref q_22, .ref q_24, .ref q_26, .ref q_28, .ref q_29, .ref q_31, .ref q_33, .ref q_35, .int 0, .ref q_37, .ref q_39, .ref q_41, .ref q_43, .ref q_45, .ref q_47, .ref q_49, .ref q_51, .ref q_53, .ref q_55, .ref q_57, .int 0, .ref q_59, .ref q_61, .ref q_63, .int (-1), .int 0, .int 0, .int 0, .int 0, .ref q_65, .int 0, .ref q_68, .int 0, .int (-1), .int 0, .int 0, .ref q_70, .ref q_72]))] sz) [(h0, .inr (16, [.ref q_1, .ref q_12, .ref q_17, .ref q_22, .ref q_24, .ref q_26, .ref q_28, .ref q_29, .ref q_31, .ref q_33, .ref q_35, .int 0, .ref q_37, .ref q_39, .ref q_41, .ref q_43, .ref q_45, .ref q_47, .ref q_49, .ref q_51, .ref q_53, .ref q_55, .ref q_57, .int 0, .ref q_59, .ref q_61, .ref q_63, .int (-1), .int 0, .int 0, .int 0, .int 0, .ref q_65, .int i_33, .ref q_68, .int i_35, .int i_36, .int i_37, .int 0, .ref q_70, .ref q_940]))]) (va_A [(h0, .inr (16, [.ref q_1, .ref q_12, .ref q_17, .ref q_22, .ref q_24, .ref q_26, .ref q_28, .ref q_29, .ref q_31, .ref q_33, .ref q_35, .int 0, .ref q_37, .ref q_39, .ref q_41, .ref q_43, .ref q_45, .ref q_47, .ref q_49, .ref q_51, .ref q_53, .ref q_55, .ref q_57, .int 0, .ref q_59, .ref q_61, .ref q_63, .int (-1), .int 0, .int 0, .int 0, .int 0, .ref q_65, .int 0, .ref q_68, .int 0, .int (-1), .int 0, .int 0, .ref q_70, .ref q_72]))] sz)) 0 0 (va_A [(h0, .inr (16, [.ref q_1, .ref q_12, .ref q_17, .ref q_22, .ref q_24, .ref q_26, .ref q_28, .ref q_29, .ref q_31, .ref q_33, .ref q_35, .int 0, .ref q_37, .ref q_39, .ref q_41, .ref q_43, .ref q_45, .ref q_47, .ref q_49, .ref q_51, .ref q_53, .ref q_55, .ref q_57, .int 0, .ref q_59, .ref q_61, .ref q_63, .int (-1), .int 0, .int 0, .int 0, .int 0, .ref q_65, .int 0, .ref q_68, .int 0, .int (-1), .int 0, .int 0, .ref q_70, .ref q_72]))] sz) := by
  refine Met.ofW (cc := cX19_run_) (maxL := 2) (ret := (some .int)) (by decide) rfl ?_
  intro p e s m args below meth c s₁ B hml hv
  obtain ⟨rfl, hsz, hP, hK, hD0⟩ := hv
  have hx := B.exec
  have hb := B.bytes
  have hr := B.returns
  have hts := atoms_spec (ws := v_X19_run_) B.pre
  have hown : s.vm.findClass RX19 = some m.cls := findClass_of_methodNamed B.named
  have hlocks := B.notSynchronized
  have ow : ∀ {k : Nat} {w : Cond}, o_X19_run_[k]? = some w → w.before ([.ref h0, .int p0] : List Value).toArray s = true := fun h => hts _ (mow_X19_run_ _ (List.mem_of_getElem? h))
  subst hsz
  have hD := hD0.self (sz := s.heap.size)
  generalize hAe : va_A [(h0, .inr (16, [.ref q_1, .ref q_12, .ref q_17, .ref q_22, .ref q_24, .ref q_26, .ref q_28, .ref q_29, .ref q_31, .ref q_33, .ref q_35, .int 0, .ref q_37, .ref q_39, .ref q_41, .ref q_43, .ref q_45, .ref q_47, .ref q_49, .ref q_51, .ref q_53, .ref q_55, .ref q_57, .int 0, .ref q_59, .ref q_61, .ref q_63, .int (-1), .int 0, .int 0, .int 0, .int 0, .ref q_65, .int 0, .ref q_68, .int 0, .int (-1), .int 0, .int 0, .ref q_70, .ref q_72]))] s.heap.size = A at hD ⊢
  have hA : ∀ q : Nat, s.heap.size ≤ q → A q := fun q h => by rw [← hAe]; exact Or.inr h
  have hS : va_S A s.heap s.heap [] := va_S.rf
  have hP : va_P (dC, dI) vwP [(h0, .inr (16, [.ref q_1, .ref q_12, .ref q_17, .ref q_22, .ref q_24, .ref q_26, .ref q_28, .ref q_29, .ref q_31, .ref q_33, .ref q_35, .int 0, .ref q_37, .ref q_39, .ref q_41, .ref q_43, .ref q_45, .ref q_47, .ref q_49, .ref q_51, .ref q_53, .ref q_55, .ref q_57, .int 0, .ref q_59, .ref q_61, .ref q_63, .int (-1), .int 0, .int 0, .int 0, .int 0, .ref q_65, .int 0, .ref q_68, .int 0, .int (-1), .int 0, .int 0, .ref q_70, .ref q_72]))] s.heap := hP
  have hl := lv_entry ([.ref h0, .int p0]) (n := 2) (Nat.le_of_ble_eq_true rfl)
  rw [lg_entry_eq]
  generalize (lg_sl ([.ref h0, .int p0]) ++ List.replicate (2 - (lg_sl ([.ref h0, .int p0])).length) Slot.unset).toArray = ls at hl ⊢
  have hl : lv_has ls 2 [(0, .ref h0), (1, .int p0)] := hl
  obtain ⟨H, hH⟩ : ∃ H, H = s.heap := ⟨_, rfl⟩
  rw [← hH] at hP
  have hS : va_S A s.heap H [] := by rw [hH]; exact hS
  rw [← hH]
  refine lv_aload_n hx hb dX19_run__0 rfl (lv_at hl 0 rfl) ?_
  refine lv_iconst (v := 0) hx hb dX19_run__1 (by decide) ?_
  refine va_put (D := (dC, dI)) (ci := 16) (v := .int 0) (ty := .int) (C := RX19) (T := TX19) (N := 41) hx hb hts mem_X19_run__0 tyX19 tyX19_ok nmX19 hown hK hP hD hS 0 rfl rfl 33 (by decide) (ow (k := 0) rfl) (fun _ h9 => h9) rfl (by decide +kernel) rfl rfl (Nat.le_of_ble_eq_true rfl) dX19_run__2 (fun H locs hP hD hS => ?_)
  have hP : va_P (dC, dI) vwP [(h0, .inr (16, [.ref q_1, .ref q_12, .ref q_17, .ref q_22, .ref q_24, .ref q_26, .ref q_28, .ref q_29, .ref q_31, .ref q_33, .ref q_35, .int 0, .ref q_37, .ref q_39, .ref q_41, .ref q_43, .ref q_45, .ref q_47, .ref q_49, .ref q_51, .ref q_53, .ref q_55, .ref q_57, .int 0, .ref q_59, .ref q_61, .ref q_63, .int (-1), .int 0, .int 0, .int 0, .int 0, .ref q_65, .int 0, .ref q_68, .int 0, .int (-1), .int 0, .int 0, .ref q_70, .ref q_72]))] H := hP
  have hD : va_D A [(h0, .inr (16, [.ref q_1, .ref q_12, .ref q_17, .ref q_22, .ref q_24, .ref q_26, .ref q_28, .ref q_29, .ref q_31, .ref q_33, .ref q_35, .int 0, .ref q_37, .ref q_39, .ref q_41, .ref q_43, .ref q_45, .ref q_47, .ref q_49, .ref q_51, .ref q_53, .ref q_55, .ref q_57, .int 0, .ref q_59, .ref q_61, .ref q_63, .int (-1), .int 0, .int 0, .int 0, .int 0, .ref q_65, .int 0, .ref q_68, .int 0, .int (-1), .int 0, .int 0, .ref q_70, .ref q_72]))] := hD
  refine lv_iload_n hx hb dX19_run__5 rfl (lv_at hl 1 rfl) ?_
  refine lv_iconst (v := 1) hx hb dX19_run__6 (by decide) ?_
  refine lv_icmp_lt (tgt := 17) hx hb dX19_run__7 (by decide) (fun b7 => ?_) (fun b7 => ?_)
  · refine lv_aload_n hx hb dX19_run__17 rfl (lv_at hl 0 rfl) ?_
    refine lv_iconst (v := 1) hx hb dX19_run__18 (by decide) ?_
    have hPc := hP.sub (ws' := [(h0, .inr (16, [.ref q_1, .ref q_12, .ref q_17, .ref q_22, .ref q_24, .ref q_26, .ref q_28, .ref q_29, .ref q_31, .ref q_33, .ref q_35, .int 0, .ref q_37, .ref q_39, .ref q_41, .ref q_43, .ref q_45, .ref q_47, .ref q_49, .ref q_51, .ref q_53, .ref q_55, .ref q_57, .int 0, .ref q_59, .ref q_61, .ref q_63, .int (-1), .int 0, .int 0, .int 0, .int 0, .ref q_65, .int 0, .ref q_68, .int 0, .int (-1), .int 0, .int 0, .ref q_70, .ref q_72]))]) [0] rfl
    have hDc := hD.sub (ws' := [(h0, .inr (16, [.ref q_1, .ref q_12, .ref q_17, .ref q_22, .ref q_24, .ref q_26, .ref q_28, .ref q_29, .ref q_31, .ref q_33, .ref q_35, .int 0, .ref q_37, .ref q_39, .ref q_41, .ref q_43, .ref q_45, .ref q_47, .ref q_49, .ref q_51, .ref q_53, .ref q_55, .ref q_57, .int 0, .ref q_59, .ref q_61, .ref q_63, .int (-1), .int 0, .int 0, .int 0, .int 0, .ref q_65, .int 0, .ref q_68, .int 0, .int (-1), .int 0, .int 0, .ref q_70, .ref q_72]))]) [0] (by decide) rfl
    have hKc := hK.sub (tys' := []) [] rfl
    have hFc := va_free (wc := [(h0, .inr (16, [.ref q_1, .ref q_12, .ref q_17, .ref q_22, .ref q_24, .ref q_26, .ref q_28, .ref q_29, .ref q_31, .ref q_33, .ref q_35, .int 0, .ref q_37, .ref q_39, .ref q_41, .ref q_43, .ref q_45, .ref q_47, .ref q_49, .ref q_51, .ref q_53, .ref q_55, .ref q_57, .int 0, .ref q_59, .ref q_61, .ref q_63, .int (-1), .int 0, .int 0, .int 0, .int 0, .ref q_65, .int 0, .ref q_68, .int 0, .int (-1), .int 0, .int 0, .ref q_70, .ref q_72]))]) hD hS hA [0] rfl
    refine va_calli (va_runV (As := [.int 1]) (rest := []) ⟨hx, hb, hml, hown, hts⟩ (c_X19_no l dC dI h0 q_1 q_12 q_17 q_22 q_24 q_26 q_28 q_29 q_31 q_33 q_35 q_37 q_39 q_41 q_43 q_45 q_47 q_49 q_51 q_53 q_55 q_57 q_59 q_61 q_63 q_65 q_68 q_70 q_72 1 H.size) (cwV 1 hts g_X19_run__X19_no rfl rfl rfl (by decide +kernel) ⟨(Nat.le_of_ble_eq_true rfl), (Nat.le_of_ble_eq_true rfl)⟩) ⟨fun a U g mk q => by obtain ⟨q0, q1, qP, qK, qD⟩ := q; exact ⟨q0, q1, qP, va_K.moved (u := U) (U := U.calling g mk a) (Vm.Alike.refl U.vm) qK, qD⟩, va_recv hKc hPc (ci := 16) (q0 := 0) rfl rfl, fun U hU hW => ⟨rfl, by rw [hU], by rw [hU]; exact hPc, va_K.moved hW.alike hKc, hDc.weaken (fun _ _ _ _ => trivial)⟩⟩ rfl rfl hl.1 rfl (lv_room (Nat.le_of_ble_eq_true rfl)) dX19_run__19 ⟨(Nat.le_of_ble_eq_true rfl), (Nat.le_of_ble_eq_true rfl)⟩) hS (fun q _ h => hFc q h) hFc (fun r_2001 u t H1 locs ht hvm hw hB hz1 hk1 hS => ?_)
    obtain ⟨hP1, hK1, hD1⟩ := hB
    rw [ht] at hP1
    have hK1 := va_K.moved hvm.symm hK1
    obtain ⟨hP, hD⟩ := va_join (wr := []) (w1 := [(h0, .inr (16, [.ref q_1, .ref q_12, .ref q_17, .ref q_22, .ref q_24, .ref q_26, .ref q_28, .ref q_29, .ref q_31, .ref q_33, .ref q_35, .int 0, .ref q_37, .ref q_39, .ref q_41, .ref q_43, .ref q_45, .ref q_47, .ref q_49, .ref q_51, .ref q_53, .ref q_55, .ref q_57, .int 0, .ref q_59, .ref q_61, .ref q_63, .int (-1), .int 0, .int 0, .int 0, .int 0, .ref q_65, .int 1, .ref q_68, .int 0, .int (-1), .int 0, .int 0, .ref q_70, .ref q_72]))]) hP hD [0] [] rfl rfl (by decide) (by decide) hk1 hFc hP1 hD1
    have hK := (hK.sub (tys' := []) [] rfl).app hK1
    generalize H1 = H at hP hS ⊢
    have hP : va_P (dC, dI) vwP [(h0, .inr (16, [.ref q_1, .ref q_12, .ref q_17, .ref q_22, .ref q_24, .ref q_26, .ref q_28, .ref q_29, .ref q_31, .ref q_33, .ref q_35, .int 0, .ref q_37, .ref q_39, .ref q_41, .ref q_43, .ref q_45, .ref q_47, .ref q_49, .ref q_51, .ref q_53, .ref q_55, .ref q_57, .int 0, .ref q_59, .ref q_61, .ref q_63, .int (-1), .int 0, .int 0, .int 0, .int 0, .ref q_65, .int 1, .ref q_68, .int 0, .int (-1), .int 0, .int 0, .ref q_70, .ref q_72]))] H := hP
    have hD : va_D A [(h0, .inr (16, [.ref q_1, .ref q_12, .ref q_17, .ref q_22, .ref q_24, .ref q_26, .ref q_28, .ref q_29, .ref q_31, .ref q_33, .ref q_35, .int 0, .ref q_37, .ref q_39, .ref q_41, .ref q_43, .ref q_45, .ref q_47, .ref q_49, .ref q_51, .ref q_53, .ref q_55, .ref q_57, .int 0, .ref q_59, .ref q_61, .ref q_63, .int (-1), .int 0, .int 0, .int 0, .int 0, .ref q_65, .int 1, .ref q_68, .int 0, .int (-1), .int 0, .int 0, .ref q_70, .ref q_72]))] := hD
    have hK : va_K (dC, dI) vwP [] s := hK
    refine W.widen (k := 0) (n := 0) (Nat.le_of_ble_eq_true rfl) (Nat.le_of_ble_eq_true rfl) ?_
    obtain rfl : r_2001 = 0 := hw
    have zb7 : p0.toInt < 1 := z_lt b7
    refine W.widen (k := 0) (n := 0) (Nat.le_of_ble_eq_true rfl) (Nat.le_of_ble_eq_true rfl) ?_
    exact W.iret (v := 0) hx hb hr (fun t ht hW => ⟨⟨0, (), rfl, (fun h9 => absurd ((show kf_run p0 = 1 by unfold kf_run; first | rfl | (split <;> first | rfl | (exfalso; omega))).symm.trans h9) (by decide)), 1, 0, (-1), 0, q_72, (show kf_run p0 = 1 by unfold kf_run; first | rfl | (split <;> first | rfl | (exfalso; omega))).symm, by rw [ht]; exact hP, va_K.moved hW.alike hK, hD⟩, hS.F ht⟩) hS.2.2 dX19_run__22
  · refine lv_iload_n hx hb dX19_run__10 rfl (lv_at hl 1 rfl) ?_
    refine lv_ldcw (v := 100000) hx hb hown (ow (k := 5) rfl) dX19_run__11 ?_
    refine lv_icmp_le (tgt := 23) hx hb dX19_run__14 (by decide) (fun b14 => ?_) (fun b14 => ?_)
    · refine lv_aload_n hx hb dX19_run__23 rfl (lv_at hl 0 rfl) ?_
      refine va_get (D := (dC, dI)) (ci := 16) (v := .int (-1)) (C := RX19) (T := TX19) (N := 41) hx hb hts mem_X19_run__0 hown hK hP 0 rfl rfl 36 (by decide) (ow (k := 6) rfl) (fun _ h9 => h9) rfl dX19_run__24 ?_
      refine lv_if_ge (tgt := 36) hx hb dX19_run__27 (by decide) (fun h9 => absurd h9 (by decide)) (fun _ => ?_)
      refine lv_aload_n hx hb dX19_run__30 rfl (lv_at hl 0 rfl) ?_
      refine lv_iconst (v := 2) hx hb dX19_run__31 (by decide) ?_
      have hPc := hP.sub (ws' := [(h0, .inr (16, [.ref q_1, .ref q_12, .ref q_17, .ref q_22, .ref q_24, .ref q_26, .ref q_28, .ref q_29, .ref q_31, .ref q_33, .ref q_35, .int 0, .ref q_37, .ref q_39, .ref q_41, .ref q_43, .ref q_45, .ref q_47, .ref q_49, .ref q_51, .ref q_53, .ref q_55, .ref q_57, .int 0, .ref q_59, .ref q_61, .ref q_63, .int (-1), .int 0, .int 0, .int 0, .int 0, .ref q_65, .int 0, .ref q_68, .int 0, .int (-1), .int 0, .int 0, .ref q_70, .ref q_72]))]) [0] rfl
      have hDc := hD.sub (ws' := [(h0, .inr (16, [.ref q_1, .ref q_12, .ref q_17, .ref q_22, .ref q_24, .ref q_26, .ref q_28, .ref q_29, .ref q_31, .ref q_33, .ref q_35, .int 0, .ref q_37, .ref q_39, .ref q_41, .ref q_43, .ref q_45, .ref q_47, .ref q_49, .ref q_51, .ref q_53, .ref q_55, .ref q_57, .int 0, .ref q_59, .ref q_61, .ref q_63, .int (-1), .int 0, .int 0, .int 0, .int 0, .ref q_65, .int 0, .ref q_68, .int 0, .int (-1), .int 0, .int 0, .ref q_70, .ref q_72]))]) [0] (by decide) rfl
      have hKc := hK.sub (tys' := []) [] rfl
      have hFc := va_free (wc := [(h0, .inr (16, [.ref q_1, .ref q_12, .ref q_17, .ref q_22, .ref q_24, .ref q_26, .ref q_28, .ref q_29, .ref q_31, .ref q_33, .ref q_35, .int 0, .ref q_37, .ref q_39, .ref q_41, .ref q_43, .ref q_45, .ref q_47, .ref q_49, .ref q_51, .ref q_53, .ref q_55, .ref q_57, .int 0, .ref q_59, .ref q_61, .ref q_63, .int (-1), .int 0, .int 0, .int 0, .int 0, .ref q_65, .int 0, .ref q_68, .int 0, .int (-1), .int 0, .int 0, .ref q_70, .ref q_72]))]) hD hS hA [0] rfl
      refine va_calli (va_runV (As := [.int 2]) (rest := []) ⟨hx, hb, hml, hown, hts⟩ (c_X19_no l dC dI h0 q_1 q_12 q_17 q_22 q_24 q_26 q_28 q_29 q_31 q_33 q_35 q_37 q_39 q_41 q_43 q_45 q_47 q_49 q_51 q_53 q_55 q_57 q_59 q_61 q_63 q_65 q_68 q_70 q_72 2 H.size) (cwV 1 hts g_X19_run__X19_no rfl rfl rfl (by decide +kernel) ⟨(Nat.le_of_ble_eq_true rfl), (Nat.le_of_ble_eq_true rfl)⟩) ⟨fun a U g mk q => by obtain ⟨q0, q1, qP, qK, qD⟩ := q; exact ⟨q0, q1, qP, va_K.moved (u := U) (U := U.calling g mk a) (Vm.Alike.refl U.vm) qK, qD⟩, va_recv hKc hPc (ci := 16) (q0 := 0) rfl rfl, fun U hU hW => ⟨rfl, by rw [hU], by rw [hU]; exact hPc, va_K.moved hW.alike hKc, hDc.weaken (fun _ _ _ _ => trivial)⟩⟩ rfl rfl hl.1 rfl (lv_room (Nat.le_of_ble_eq_true rfl)) dX19_run__32 ⟨(Nat.le_of_ble_eq_true rfl), (Nat.le_of_ble_eq_true rfl)⟩) hS (fun q _ h => hFc q h) hFc (fun r_2002 u t H1 locs ht hvm hw hB hz1 hk1 hS => ?_)
      obtain ⟨hP1, hK1, hD1⟩ := hB
      rw [ht] at hP1
      have hK1 := va_K.moved hvm.symm hK1
      obtain ⟨hP, hD⟩ := va_join (wr := []) (w1 := [(h0, .inr (16, [.ref q_1, .ref q_12, .ref q_17, .ref q_22, .ref q_24, .ref q_26, .ref q_28, .ref q_29, .ref q_31, .ref q_33, .ref q_35, .int 0, .ref q_37, .ref q_39, .ref q_41, .ref q_43, .ref q_45, .ref q_47, .ref q_49, .ref q_51, .ref q_53, .ref q_55, .ref q_57, .int 0, .ref q_59, .ref q_61, .ref q_63, .int (-1), .int 0, .int 0, .int 0, .int 0, .ref q_65, .int 2, .ref q_68, .int 0, .int (-1), .int 0, .int 0, .ref q_70, .ref q_72]))]) hP hD [0] [] rfl rfl (by decide) (by decide) hk1 hFc hP1 hD1
      have hK := (hK.sub (tys' := []) [] rfl).app hK1
      generalize H1 = H at hP hS ⊢
      have hP : va_P (dC, dI) vwP [(h0, .inr (16, [.ref q_1, .ref q_12, .ref q_17, .ref q_22, .ref q_24, .ref q_26, .ref q_28, .ref q_29, .ref q_31, .ref q_33, .ref q_35, .int 0, .ref q_37, .ref q_39, .ref q_41, .ref q_43, .ref q_45, .ref q_47, .ref q_49, .ref q_51, .ref q_53, .ref q_55, .ref q_57, .int 0, .ref q_59, .ref q_61, .ref q_63, .int (-1), .int 0, .int 0, .int 0, .int 0, .ref q_65, .int 2, .ref q_68, .int 0, .int (-1), .int 0, .int 0, .ref q_70, .ref q_72]))] H := hP
      have hD : va_D A [(h0, .inr (16, [.ref q_1, .ref q_12, .ref q_17, .ref q_22, .ref q_24, .ref q_26, .ref q_28, .ref q_29, .ref q_31, .ref q_33, .ref q_35, .int 0, .ref q_37, .ref q_39, .ref q_41, .ref q_43, .ref q_45, .ref q_47, .ref q_49, .ref q_51, .ref q_53, .ref q_55, .ref q_57, .int 0, .ref q_59, .ref q_61, .ref q_63, .int (-1), .int 0, .int 0, .int 0, .int 0, .ref q_65, .int 2, .ref q_68, .int 0, .int (-1), .int 0, .int 0, .ref q_70, .ref q_72]))] := hD
      have hK : va_K (dC, dI) vwP [] s := hK
      refine W.widen (k := 0) (n := 0) (Nat.le_of_ble_eq_true rfl) (Nat.le_of_ble_eq_true rfl) ?_
      obtain rfl : r_2002 = 0 := hw
      have zb7 : 1 ≤ p0.toInt := z_nlt b7
      have zb14 : p0.toInt ≤ 100000 := z_le b14
      refine W.widen (k := 0) (n := 0) (Nat.le_of_ble_eq_true rfl) (Nat.le_of_ble_eq_true rfl) ?_
      exact W.iret (v := 0) hx hb hr (fun t ht hW => ⟨⟨0, (), rfl, (fun h9 => absurd ((show kf_run p0 = 2 by unfold kf_run; first | rfl | (split <;> first | rfl | (exfalso; omega))).symm.trans h9) (by decide)), 2, 0, (-1), 0, q_72, (show kf_run p0 = 2 by unfold kf_run; first | rfl | (split <;> first | rfl | (exfalso; omega))).symm, by rw [ht]; exact hP, va_K.moved hW.alike hK, hD⟩, hS.F ht⟩) hS.2.2 dX19_run__35
    · refine lv_aload_n hx hb dX19_run__17 rfl (lv_at hl 0 rfl) ?_
      refine lv_iconst (v := 1) hx hb dX19_run__18 (by decide) ?_
      have hPc := hP.sub (ws' := [(h0, .inr (16, [.ref q_1, .ref q_12, .ref q_17, .ref q_22, .ref q_24, .ref q_26, .ref q_28, .ref q_29, .ref q_31, .ref q_33, .ref q_35, .int 0, .ref q_37, .ref q_39, .ref q_41, .ref q_43, .ref q_45, .ref q_47, .ref q_49, .ref q_51, .ref q_53, .ref q_55, .ref q_57, .int 0, .ref q_59, .ref q_61, .ref q_63, .int (-1), .int 0, .int 0, .int 0, .int 0, .ref q_65, .int 0, .ref q_68, .int 0, .int (-1), .int 0, .int 0, .ref q_70, .ref q_72]))]) [0] rfl
      have hDc := hD.sub (ws' := [(h0, .inr (16, [.ref q_1, .ref q_12, .ref q_17, .ref q_22, .ref q_24, .ref q_26, .ref q_28, .ref q_29, .ref q_31, .ref q_33, .ref q_35, .int 0, .ref q_37, .ref q_39, .ref q_41, .ref q_43, .ref q_45, .ref q_47, .ref q_49, .ref q_51, .ref q_53, .ref q_55, .ref q_57, .int 0, .ref q_59, .ref q_61, .ref q_63, .int (-1), .int 0, .int 0, .int 0, .int 0, .ref q_65, .int 0, .ref q_68, .int 0, .int (-1), .int 0, .int 0, .ref q_70, .ref q_72]))]) [0] (by decide) rfl
      have hKc := hK.sub (tys' := []) [] rfl
      have hFc := va_free (wc := [(h0, .inr (16, [.ref q_1, .ref q_12, .ref q_17, .ref q_22, .ref q_24, .ref q_26, .ref q_28, .ref q_29, .ref q_31, .ref q_33, .ref q_35, .int 0, .ref q_37, .ref q_39, .ref q_41, .ref q_43, .ref q_45, .ref q_47, .ref q_49, .ref q_51, .ref q_53, .ref q_55, .ref q_57, .int 0, .ref q_59, .ref q_61, .ref q_63, .int (-1), .int 0, .int 0, .int 0, .int 0, .ref q_65, .int 0, .ref q_68, .int 0, .int (-1), .int 0, .int 0, .ref q_70, .ref q_72]))]) hD hS hA [0] rfl
      refine va_calli (va_runV (As := [.int 1]) (rest := []) ⟨hx, hb, hml, hown, hts⟩ (c_X19_no l dC dI h0 q_1 q_12 q_17 q_22 q_24 q_26 q_28 q_29 q_31 q_33 q_35 q_37 q_39 q_41 q_43 q_45 q_47 q_49 q_51 q_53 q_55 q_57 q_59 q_61 q_63 q_65 q_68 q_70 q_72 1 H.size) (cwV 1 hts g_X19_run__X19_no rfl rfl rfl (by decide +kernel) ⟨(Nat.le_of_ble_eq_true rfl), (Nat.le_of_ble_eq_true rfl)⟩) ⟨fun a U g mk q => by obtain ⟨q0, q1, qP, qK, qD⟩ := q; exact ⟨q0, q1, qP, va_K.moved (u := U) (U := U.calling g mk a) (Vm.Alike.refl U.vm) qK, qD⟩, va_recv hKc hPc (ci := 16) (q0 := 0) rfl rfl, fun U hU hW => ⟨rfl, by rw [hU], by rw [hU]; exact hPc, va_K.moved hW.alike hKc, hDc.weaken (fun _ _ _ _ => trivial)⟩⟩ rfl rfl hl.1 rfl (lv_room (Nat.le_of_ble_eq_true rfl)) dX19_run__19 ⟨(Nat.le_of_ble_eq_true rfl), (Nat.le_of_ble_eq_true rfl)⟩) hS (fun q _ h => hFc q h) hFc (fun r_2003 u t H1 locs ht hvm hw hB hz1 hk1 hS => ?_)
      obtain ⟨hP1, hK1, hD1⟩ := hB
      rw [ht] at hP1
      have hK1 := va_K.moved hvm.symm hK1
      obtain ⟨hP, hD⟩ := va_join (wr := []) (w1 := [(h0, .inr (16, [.ref q_1, .ref q_12, .ref q_17, .ref q_22, .ref q_24, .ref q_26, .ref q_28, .ref q_29, .ref q_31, .ref q_33, .ref q_35, .int 0, .ref q_37, .ref q_39, .ref q_41, .ref q_43, .ref q_45, .ref q_47, .ref q_49, .ref q_51, .ref q_53, .ref q_55, .ref q_57, .int 0, .ref q_59, .ref q_61, .ref q_63, .int (-1), .int 0, .int 0, .int 0, .int 0, .ref q_65, .int 1, .ref q_68, .int 0, .int (-1), .int 0, .int 0, .ref q_70, .ref q_72]))]) hP hD [0] [] rfl rfl (by decide) (by decide) hk1 hFc hP1 hD1
      have hK := (hK.sub (tys' := []) [] rfl).app hK1
      generalize H1 = H at hP hS ⊢
      have hP : va_P (dC, dI) vwP [(h0, .inr (16, [.ref q_1, .ref q_12, .ref q_17, .ref q_22, .ref q_24, .ref q_26, .ref q_28, .ref q_29, .ref q_31, .ref q_33, .ref q_35, .int 0, .ref q_37, .ref q_39, .ref q_41, .ref q_43, .ref q_45, .ref q_47, .ref q_49, .ref q_51, .ref q_53, .ref q_55, .ref q_57, .int 0, .ref q_59, .ref q_61, .ref q_63, .int (-1), .int 0, .int 0, .int 0, .int 0, .ref q_65, .int 1, .ref q_68, .int 0, .int (-1), .int 0, .int 0, .ref q_70, .ref q_72]))] H := hP
      have hD : va_D A [(h0, .inr (16, [.ref q_1, .ref q_12, .ref q_17, .ref q_22, .ref q_24, .ref q_26, .ref q_28, .ref q_29, .ref q_31, .ref q_33, .ref q_35, .int 0, .ref q_37, .ref q_39, .ref q_41, .ref q_43, .ref q_45, .ref q_47, .ref q_49, .ref q_51, .ref q_53, .ref q_55, .ref q_57, .int 0, .ref q_59, .ref q_61, .ref q_63, .int (-1), .int 0, .int 0, .int 0, .int 0, .ref q_65, .int 1, .ref q_68, .int 0, .int (-1), .int 0, .int 0, .ref q_70, .ref q_72]))] := hD
      have hK : va_K (dC, dI) vwP [] s := hK
      refine W.widen (k := 0) (n := 0) (Nat.le_of_ble_eq_true rfl) (Nat.le_of_ble_eq_true rfl) ?_
      obtain rfl : r_2003 = 0 := hw
      have zb7 : 1 ≤ p0.toInt := z_nlt b7
      have zb14 : 100000 < p0.toInt := z_nle b14
      refine W.widen (k := 0) (n := 0) (Nat.le_of_ble_eq_true rfl) (Nat.le_of_ble_eq_true rfl) ?_
      exact W.iret (v := 0) hx hb hr (fun t ht hW => ⟨⟨0, (), rfl, (fun h9 => absurd ((show kf_run p0 = 1 by unfold kf_run; first | rfl | (split <;> first | rfl | (exfalso; omega))).symm.trans h9) (by decide)), 1, 0, (-1), 0, q_72, (show kf_run p0 = 1 by unfold kf_run; first | rfl | (split <;> first | rfl | (exfalso; omega))).symm, by rw [ht]; exact hP, va_K.moved hW.alike hK, hD⟩, hS.F ht⟩) hS.2.2 dX19_run__22
theorem dX19_told_0 : decode cX19_told 0 = .ok (.aload_n 0, 1) := by decide +kernel
theorem dX19_told_1 : decode cX19_told 1 = .ok (.iconst 0, 1) := by decide +kernel
theorem dX19_told_2 : decode cX19_told 2 = .ok (.putfield 560, 3) := by decide +kernel
theorem dX19_told_5 : decode cX19_told 5 = .ok (.iload_n 1, 1) := by decide +kernel
theorem dX19_told_6 : decode cX19_told 6 = .ok (.tableswitch 70 0 4 #[34, 50, 55, 60, 65], 34) := by decide +kernel
theorem dX19_told_40 : decode cX19_told 40 = .ok (.aload_n 0, 1) := by decide +kernel
theorem dX19_told_41 : decode cX19_told 41 = .ok (.getfield 548, 3) := by decide +kernel
theorem dX19_told_44 : decode cX19_told 44 = .ok (.ifCond .ne 10, 3) := by decide +kernel
theorem dX19_told_54 : decode cX19_told 54 = .ok (.iconst 0, 1) := by decide +kernel
theorem dX19_told_55 : decode cX19_told 55 = .ok (.ireturn, 1) := by decide +kernel
theorem dX19_told_56 : decode cX19_told 56 = .ok (.aload_n 0, 1) := by decide +kernel
theorem dX19_told_57 : decode cX19_told 57 = .ok (.getfield 466, 3) := by decide +kernel
theorem dX19_told_60 : decode cX19_told 60 = .ok (.ireturn, 1) := by decide +kernel
theorem dX19_told_61 : decode cX19_told 61 = .ok (.aload_n 0, 1) := by decide +kernel
theorem dX19_told_62 : decode cX19_told 62 = .ok (.getfield 469, 3) := by decide +kernel
theorem dX19_told_65 : decode cX19_told 65 = .ok (.ireturn, 1) := by decide +kernel
theorem dX19_told_66 : decode cX19_told 66 = .ok (.aload_n 0, 1) := by decide +kernel
theorem dX19_told_67 : decode cX19_told 67 = .ok (.getfield 472, 3) := by decide +kernel
theorem dX19_told_70 : decode cX19_told 70 = .ok (.ireturn, 1) := by decide +kernel
theorem dX19_told_71 : decode cX19_told 71 = .ok (.aload_n 0, 1) := by decide +kernel
theorem dX19_told_72 : decode cX19_told 72 = .ok (.getfield 548, 3) := by decide +kernel
theorem dX19_told_75 : decode cX19_told 75 = .ok (.ireturn, 1) := by decide +kernel
theorem dX19_told_76 : decode cX19_told 76 = .ok (.aload_n 0, 1) := by decide +kernel
theorem dX19_told_77 : decode cX19_told 77 = .ok (.iconst 1, 1) := by decide +kernel
theorem dX19_told_78 : decode cX19_told 78 = .ok (.invokevirtual 565, 3) := by decide +kernel
theorem dX19_told_81 : decode cX19_told 81 = .ok (.ireturn, 1) := by decide +kernel
def o_X19_told : List Cond := [.fieldLink RX19 560 "SsaForgeModel" "thrown" "I", .fieldLink RX19 548 "SsaForgeModel" "ended" "I", .fieldLink RX19 466 "SsaForgeModel" "shown" "I", .fieldLink RX19 469 "SsaForgeModel" "steps" "I", .fieldLink RX19 472 "SsaForgeModel" "read" "I", .methodLink RX19 565 yX19_no, .instanceMethod yX19_no, .selects RX19 yX19_no yX19_no, .initialized RX19]
def v_X19_told : List Cond := .code yX19_told cX19_told 2 (some .int) :: (o_X19_told ++ (wsX190 ++ (v_X19_no ++ [])))
theorem mow_X19_told : ∀ w ∈ o_X19_told, w ∈ v_X19_told := fun _ h => List.mem_cons_of_mem _ (List.mem_append_left _ h)
theorem mem_X19_told_0 : ∀ w ∈ wsX190, w ∈ v_X19_told := fun _ h => List.mem_cons_of_mem _ (List.mem_append_right _ (List.mem_append_left _ h))
theorem mem_X19_told_1 : ∀ w ∈ v_X19_no, w ∈ v_X19_told := fun _ h => List.mem_cons_of_mem _ (List.mem_append_right _ (List.mem_append_right _ (List.mem_append_left _ h)))
set_option maxRecDepth 20000 in
theorem gw_X19_told : v_X19_told.all goodWord = true := by decide +kernel
set_option maxRecDepth 20000 in
theorem g_X19_told_X19_no : GoodIn v_X19_told (wsV RX19 565 RX19 yX19_no v_X19_no) := goodIn_app (goodIn_sub (fun w h => mow_X19_told w (by revert w h; decide +kernel)) (by decide +kernel)) (goodIn_sub mem_X19_told_1 gw_X19_no)
set_option maxHeartbeats 4000000 in
set_option maxRecDepth 100000 in
theorem c_X19_told (l : Launch) (dC : Nat → ClassId) (dI : Nat → Nat → Nat) (h0 : Nat) (q_1 : Nat) (q_12 : Nat) (q_17 : Nat) (q_22 : Nat) (q_24 : Nat) (q_26 : Nat) (q_28 : Nat) (q_29 : Nat) (q_31 : Nat) (q_33 : Nat) (q_35 : Nat) (q_37 : Nat) (q_39 : Nat) (q_41 : Nat) (q_43 : Nat) (q_45 : Nat) (q_47 : Nat) (q_49 : Nat) (q_51 : Nat) (q_53 : Nat) (q_55 : Nat) (q_57 : Nat) (q_59 : Nat) (q_61 : Nat) (q_63 : Nat) (q_65 : Nat) (q_68 : Nat) (q_70 : Nat) (q_72 : Nat) (p0 : Int32) (sz : Nat) : Met l yX19_told v_X19_told ({ frames := 1, cells := 0, slots := 0, locals := 21 }) (va_Pc [.ref h0, .int p0] (fun U => U.heap.size = sz ∧ va_P (dC, dI) vwP [(h0, .inr (16, [.ref q_1, .ref q_12, .ref q_17, .ref q_22, .ref q_24, .ref q_26, .ref q_28, .ref q_29, .ref q_31, .ref q_33, .ref q_35, .int 0, .ref q_37, .ref q_39, .ref q_41, .ref q_43, .ref q_45, .ref q_47, .ref q_49, .ref q_51, .ref q_53, .ref q_55, .ref q_57, .int 0, .ref q_59, .ref q_61, .ref q_63, .int (-1), .int 0, .int 0, .int 0, .int 0, .ref q_65, .int 0, .ref q_68, .int 0, .int (-1), .int 0, .int 0, .ref q_70, .ref q_72]))] U.heap ∧ va_K (dC, dI) vwP [] U ∧ va_D (fun _ => True) [(h0, .inr (16, [.ref q_1, .ref q_12, .ref q_17, .ref q_22, .ref q_24, .ref q_26, .ref q_28, .ref q_29, .ref q_31, .ref q_33, .ref q_35, .int 0, .ref q_37, .ref q_39, .ref q_41, .ref q_43, .ref q_45, .ref q_47, .ref q_49, .ref q_51, .ref q_53, .ref q_55, .ref q_57, .int 0, .ref q_59, .ref q_61, .ref q_63, .int (-1), .int 0, .int 0, .int 0, .int 0, .ref q_65, .int 0, .ref q_68, .int 0, .int (-1), .int 0, .int 0, .ref q_70, .ref q_72]))])) (va_Qi (fun (r : Int32) (_ : Unit) => kf_told p0 = 0 → r = vf_told p0) (fun (_ : Unit) (t : State) => ∃ (i_33 : Int32) (i_35 : Int32) (i_36 : Int32) (i_37 : Int32) (q_940 : Nat), (i_33 = kf_told p0) ∧ va_P (dC, dI) vwP [(h0, .inr (16, [.ref q_1, .ref q_12, .ref q_17, .ref q_22, .ref q_24, .ref q_26, .ref q_28, .ref q_29, .ref q_31, .ref q_33, .ref q_35, .int 0, .ref q_37, .ref q_39, .ref q_41, .ref q_43, .ref q_45, .ref q_47, .ref q_49, .ref q_51, .ref q_53, .ref q_55, .ref q_57, .int 0, .ref q_59, .ref q_61, .ref q_63, .int (-1), .int 0, .int 0, .int 0, .int 0, .ref q_65, .int i_33, .ref q_68, .int i_35, .int i_36, .int i_37, .int 0, .ref q_70, .ref q_940]))] t.heap ∧ va_K (dC, dI) vwP [] t ∧ va_D (va_A [(h0, .inr (16, [.ref q_1, .ref q_12, .ref q_17, .ref q_22, .ref q_24, .ref q_26, .ref q_28, .ref q_29, .ref q_31, .ref q_33, .ref q_35, .int 0, .ref q_37, .ref q_39, .ref q_41, .ref q_43, .ref q_45, .ref q_47, .ref q_49, .ref q_51, .ref q_53, .ref q_55, .ref q_57, .int 0, .ref q_59, .ref q_61, .ref q_63, .int (-1), .int 0, .int 0, .int 0, .int 0, .ref q_65, .int 0, .ref q_68, .int 0, .int (-1), .int 0, .int 0, .ref q_70, .ref q_72]))] sz) [(h0, .inr (16, [.ref q_1, .ref q_12, .ref q_17, .ref q_22, .ref q_24, .ref q_26, .ref q_28, .ref q_29, .ref q_31, .ref q_33, .ref q_35, .int 0, .ref q_37, .ref q_39, .ref q_41, .ref q_43, .ref q_45, .ref q_47, .ref q_49, .ref q_51, .ref q_53, .ref q_55, .ref q_57, .int 0, .ref q_59, .ref q_61, .ref q_63, .int (-1), .int 0, .int 0, .int 0, .int 0, .ref q_65, .int i_33, .ref q_68, .int i_35, .int i_36, .int i_37, .int 0, .ref q_70, .ref q_940]))]) (va_A [(h0, .inr (16, [.ref q_1, .ref q_12, .ref q_17, .ref q_22, .ref q_24, .ref q_26, .ref q_28, .ref q_29, .ref q_31, .ref q_33, .ref q_35, .int 0, .ref q_37, .ref q_39, .ref q_41, .ref q_43, .ref q_45, .ref q_47, .ref q_49, .ref q_51, .ref q_53, .ref q_55, .ref q_57, .int 0, .ref q_59, .ref q_61, .ref q_63, .int (-1), .int 0, .int 0, .int 0, .int 0, .ref q_65, .int 0, .ref q_68, .int 0, .int (-1), .int 0, .int 0, .ref q_70, .ref q_72]))] sz)) 0 0 (va_A [(h0, .inr (16, [.ref q_1, .ref q_12, .ref q_17, .ref q_22, .ref q_24, .ref q_26, .ref q_28, .ref q_29, .ref q_31, .ref q_33, .ref q_35, .int 0, .ref q_37, .ref q_39, .ref q_41, .ref q_43, .ref q_45, .ref q_47, .ref q_49, .ref q_51, .ref q_53, .ref q_55, .ref q_57, .int 0, .ref q_59, .ref q_61, .ref q_63, .int (-1), .int 0, .int 0, .int 0, .int 0, .ref q_65, .int 0, .ref q_68, .int 0, .int (-1), .int 0, .int 0, .ref q_70, .ref q_72]))] sz) := by
  refine Met.ofW (cc := cX19_told) (maxL := 2) (ret := (some .int)) (by decide) rfl ?_
  intro p e s m args below meth c s₁ B hml hv
  obtain ⟨rfl, hsz, hP, hK, hD0⟩ := hv
  have hx := B.exec
  have hb := B.bytes
  have hr := B.returns
  have hts := atoms_spec (ws := v_X19_told) B.pre
  have hown : s.vm.findClass RX19 = some m.cls := findClass_of_methodNamed B.named
  have hlocks := B.notSynchronized
  have ow : ∀ {k : Nat} {w : Cond}, o_X19_told[k]? = some w → w.before ([.ref h0, .int p0] : List Value).toArray s = true := fun h => hts _ (mow_X19_told _ (List.mem_of_getElem? h))
  subst hsz
  have hD := hD0.self (sz := s.heap.size)
  generalize hAe : va_A [(h0, .inr (16, [.ref q_1, .ref q_12, .ref q_17, .ref q_22, .ref q_24, .ref q_26, .ref q_28, .ref q_29, .ref q_31, .ref q_33, .ref q_35, .int 0, .ref q_37, .ref q_39, .ref q_41, .ref q_43, .ref q_45, .ref q_47, .ref q_49, .ref q_51, .ref q_53, .ref q_55, .ref q_57, .int 0, .ref q_59, .ref q_61, .ref q_63, .int (-1), .int 0, .int 0, .int 0, .int 0, .ref q_65, .int 0, .ref q_68, .int 0, .int (-1), .int 0, .int 0, .ref q_70, .ref q_72]))] s.heap.size = A at hD ⊢
  have hA : ∀ q : Nat, s.heap.size ≤ q → A q := fun q h => by rw [← hAe]; exact Or.inr h
  have hS : va_S A s.heap s.heap [] := va_S.rf
  have hP : va_P (dC, dI) vwP [(h0, .inr (16, [.ref q_1, .ref q_12, .ref q_17, .ref q_22, .ref q_24, .ref q_26, .ref q_28, .ref q_29, .ref q_31, .ref q_33, .ref q_35, .int 0, .ref q_37, .ref q_39, .ref q_41, .ref q_43, .ref q_45, .ref q_47, .ref q_49, .ref q_51, .ref q_53, .ref q_55, .ref q_57, .int 0, .ref q_59, .ref q_61, .ref q_63, .int (-1), .int 0, .int 0, .int 0, .int 0, .ref q_65, .int 0, .ref q_68, .int 0, .int (-1), .int 0, .int 0, .ref q_70, .ref q_72]))] s.heap := hP
  have hl := lv_entry ([.ref h0, .int p0]) (n := 2) (Nat.le_of_ble_eq_true rfl)
  rw [lg_entry_eq]
  generalize (lg_sl ([.ref h0, .int p0]) ++ List.replicate (2 - (lg_sl ([.ref h0, .int p0])).length) Slot.unset).toArray = ls at hl ⊢
  have hl : lv_has ls 2 [(0, .ref h0), (1, .int p0)] := hl
  obtain ⟨H, hH⟩ : ∃ H, H = s.heap := ⟨_, rfl⟩
  rw [← hH] at hP
  have hS : va_S A s.heap H [] := by rw [hH]; exact hS
  rw [← hH]
  refine lv_aload_n hx hb dX19_told_0 rfl (lv_at hl 0 rfl) ?_
  refine lv_iconst (v := 0) hx hb dX19_told_1 (by decide) ?_
  refine va_put (D := (dC, dI)) (ci := 16) (v := .int 0) (ty := .int) (C := RX19) (T := TX19) (N := 41) hx hb hts mem_X19_told_0 tyX19 tyX19_ok nmX19 hown hK hP hD hS 0 rfl rfl 33 (by decide) (ow (k := 0) rfl) (fun _ h9 => h9) rfl (by decide +kernel) rfl rfl (Nat.le_of_ble_eq_true rfl) dX19_told_2 (fun H locs hP hD hS => ?_)
  have hP : va_P (dC, dI) vwP [(h0, .inr (16, [.ref q_1, .ref q_12, .ref q_17, .ref q_22, .ref q_24, .ref q_26, .ref q_28, .ref q_29, .ref q_31, .ref q_33, .ref q_35, .int 0, .ref q_37, .ref q_39, .ref q_41, .ref q_43, .ref q_45, .ref q_47, .ref q_49, .ref q_51, .ref q_53, .ref q_55, .ref q_57, .int 0, .ref q_59, .ref q_61, .ref q_63, .int (-1), .int 0, .int 0, .int 0, .int 0, .ref q_65, .int 0, .ref q_68, .int 0, .int (-1), .int 0, .int 0, .ref q_70, .ref q_72]))] H := hP
  have hD : va_D A [(h0, .inr (16, [.ref q_1, .ref q_12, .ref q_17, .ref q_22, .ref q_24, .ref q_26, .ref q_28, .ref q_29, .ref q_31, .ref q_33, .ref q_35, .int 0, .ref q_37, .ref q_39, .ref q_41, .ref q_43, .ref q_45, .ref q_47, .ref q_49, .ref q_51, .ref q_53, .ref q_55, .ref q_57, .int 0, .ref q_59, .ref q_61, .ref q_63, .int (-1), .int 0, .int 0, .int 0, .int 0, .ref q_65, .int 0, .ref q_68, .int 0, .int (-1), .int 0, .int 0, .ref q_70, .ref q_72]))] := hD
  refine lv_iload_n hx hb dX19_told_5 rfl (lv_at hl 1 rfl) ?_
  by_cases s6_0 : p0 = 0
  · refine lv_tableIn (off := 34) (tgt := 40) hx hb dX19_told_6 (by rw [s6_0]; decide) (by rw [s6_0]; decide) (by rw [s6_0]; decide) (by decide) ?_
    refine lv_aload_n hx hb dX19_told_40 rfl (lv_at hl 0 rfl) ?_
    refine va_get (D := (dC, dI)) (ci := 16) (v := .int (-1)) (C := RX19) (T := TX19) (N := 41) hx hb hts mem_X19_told_0 hown hK hP 0 rfl rfl 27 (by decide) (ow (k := 1) rfl) (fun _ h9 => h9) rfl dX19_told_41 ?_
    refine lv_if_ne (tgt := 54) hx hb dX19_told_44 (by decide) (fun _ => ?_) (fun h9 => absurd h9 (by decide))
    refine lv_iconst (v := 0) hx hb dX19_told_54 (by decide) ?_
    have zs6_0 : p0.toInt = 0 := z_eq s6_0
    refine W.widen (k := 0) (n := 0) (Nat.le_of_ble_eq_true rfl) (Nat.le_of_ble_eq_true rfl) ?_
    exact W.iret (v := 0) hx hb hr (fun t ht hW => ⟨⟨0, (), rfl, (fun _ => (show 0 = vf_told p0 by unfold vf_told; first | rfl | (split <;> first | rfl | (exfalso; omega)))), 0, 0, (-1), 0, q_72, (show kf_told p0 = 0 by unfold kf_told; first | rfl | (split <;> first | rfl | (exfalso; omega))).symm, by rw [ht]; exact hP, va_K.moved hW.alike hK, hD⟩, hS.F ht⟩) hS.2.2 dX19_told_55
  by_cases s6_1 : p0 = 1
  · refine lv_tableIn (off := 50) (tgt := 56) hx hb dX19_told_6 (by rw [s6_1]; decide) (by rw [s6_1]; decide) (by rw [s6_1]; decide) (by decide) ?_
    refine lv_aload_n hx hb dX19_told_56 rfl (lv_at hl 0 rfl) ?_
    refine va_get (D := (dC, dI)) (ci := 16) (v := .int 0) (C := RX19) (T := TX19) (N := 41) hx hb hts mem_X19_told_0 hown hK hP 0 rfl rfl 29 (by decide) (ow (k := 2) rfl) (fun _ h9 => h9) rfl dX19_told_57 ?_
    have zs6_0 : ¬ p0.toInt = 0 := z_ne s6_0
    have zs6_1 : p0.toInt = 1 := z_eq s6_1
    refine W.widen (k := 0) (n := 0) (Nat.le_of_ble_eq_true rfl) (Nat.le_of_ble_eq_true rfl) ?_
    exact W.iret (v := 0) hx hb hr (fun t ht hW => ⟨⟨0, (), rfl, (fun _ => (show 0 = vf_told p0 by unfold vf_told; first | rfl | (split <;> first | rfl | (exfalso; omega)))), 0, 0, (-1), 0, q_72, (show kf_told p0 = 0 by unfold kf_told; first | rfl | (split <;> first | rfl | (exfalso; omega))).symm, by rw [ht]; exact hP, va_K.moved hW.alike hK, hD⟩, hS.F ht⟩) hS.2.2 dX19_told_60
  by_cases s6_2 : p0 = 2
  · refine lv_tableIn (off := 55) (tgt := 61) hx hb dX19_told_6 (by rw [s6_2]; decide) (by rw [s6_2]; decide) (by rw [s6_2]; decide) (by decide) ?_
    refine lv_aload_n hx hb dX19_told_61 rfl (lv_at hl 0 rfl) ?_
    refine va_get (D := (dC, dI)) (ci := 16) (v := .int 0) (C := RX19) (T := TX19) (N := 41) hx hb hts mem_X19_told_0 hown hK hP 0 rfl rfl 30 (by decide) (ow (k := 3) rfl) (fun _ h9 => h9) rfl dX19_told_62 ?_
    have zs6_0 : ¬ p0.toInt = 0 := z_ne s6_0
    have zs6_1 : ¬ p0.toInt = 1 := z_ne s6_1
    have zs6_2 : p0.toInt = 2 := z_eq s6_2
    refine W.widen (k := 0) (n := 0) (Nat.le_of_ble_eq_true rfl) (Nat.le_of_ble_eq_true rfl) ?_
    exact W.iret (v := 0) hx hb hr (fun t ht hW => ⟨⟨0, (), rfl, (fun _ => (show 0 = vf_told p0 by unfold vf_told; first | rfl | (split <;> first | rfl | (exfalso; omega)))), 0, 0, (-1), 0, q_72, (show kf_told p0 = 0 by unfold kf_told; first | rfl | (split <;> first | rfl | (exfalso; omega))).symm, by rw [ht]; exact hP, va_K.moved hW.alike hK, hD⟩, hS.F ht⟩) hS.2.2 dX19_told_65
  by_cases s6_3 : p0 = 3
  · refine lv_tableIn (off := 60) (tgt := 66) hx hb dX19_told_6 (by rw [s6_3]; decide) (by rw [s6_3]; decide) (by rw [s6_3]; decide) (by decide) ?_
    refine lv_aload_n hx hb dX19_told_66 rfl (lv_at hl 0 rfl) ?_
    refine va_get (D := (dC, dI)) (ci := 16) (v := .int 0) (C := RX19) (T := TX19) (N := 41) hx hb hts mem_X19_told_0 hown hK hP 0 rfl rfl 31 (by decide) (ow (k := 4) rfl) (fun _ h9 => h9) rfl dX19_told_67 ?_
    have zs6_0 : ¬ p0.toInt = 0 := z_ne s6_0
    have zs6_1 : ¬ p0.toInt = 1 := z_ne s6_1
    have zs6_2 : ¬ p0.toInt = 2 := z_ne s6_2
    have zs6_3 : p0.toInt = 3 := z_eq s6_3
    refine W.widen (k := 0) (n := 0) (Nat.le_of_ble_eq_true rfl) (Nat.le_of_ble_eq_true rfl) ?_
    exact W.iret (v := 0) hx hb hr (fun t ht hW => ⟨⟨0, (), rfl, (fun _ => (show 0 = vf_told p0 by unfold vf_told; first | rfl | (split <;> first | rfl | (exfalso; omega)))), 0, 0, (-1), 0, q_72, (show kf_told p0 = 0 by unfold kf_told; first | rfl | (split <;> first | rfl | (exfalso; omega))).symm, by rw [ht]; exact hP, va_K.moved hW.alike hK, hD⟩, hS.F ht⟩) hS.2.2 dX19_told_70
  by_cases s6_4 : p0 = 4
  · refine lv_tableIn (off := 65) (tgt := 71) hx hb dX19_told_6 (by rw [s6_4]; decide) (by rw [s6_4]; decide) (by rw [s6_4]; decide) (by decide) ?_
    refine lv_aload_n hx hb dX19_told_71 rfl (lv_at hl 0 rfl) ?_
    refine va_get (D := (dC, dI)) (ci := 16) (v := .int (-1)) (C := RX19) (T := TX19) (N := 41) hx hb hts mem_X19_told_0 hown hK hP 0 rfl rfl 27 (by decide) (ow (k := 1) rfl) (fun _ h9 => h9) rfl dX19_told_72 ?_
    have zs6_0 : ¬ p0.toInt = 0 := z_ne s6_0
    have zs6_1 : ¬ p0.toInt = 1 := z_ne s6_1
    have zs6_2 : ¬ p0.toInt = 2 := z_ne s6_2
    have zs6_3 : ¬ p0.toInt = 3 := z_ne s6_3
    have zs6_4 : p0.toInt = 4 := z_eq s6_4
    refine W.widen (k := 0) (n := 0) (Nat.le_of_ble_eq_true rfl) (Nat.le_of_ble_eq_true rfl) ?_
    exact W.iret (v := (-1)) hx hb hr (fun t ht hW => ⟨⟨(-1), (), rfl, (fun _ => (show (-1) = vf_told p0 by unfold vf_told; first | rfl | (split <;> first | rfl | (exfalso; omega)))), 0, 0, (-1), 0, q_72, (show kf_told p0 = 0 by unfold kf_told; first | rfl | (split <;> first | rfl | (exfalso; omega))).symm, by rw [ht]; exact hP, va_K.moved hW.alike hK, hD⟩, hS.F ht⟩) hS.2.2 dX19_told_75
  have zs6_0 : ¬ p0.toInt = 0 := z_ne s6_0
  have zs6_1 : ¬ p0.toInt = 1 := z_ne s6_1
  have zs6_2 : ¬ p0.toInt = 2 := z_ne s6_2
  have zs6_3 : ¬ p0.toInt = 3 := z_ne s6_3
  have zs6_4 : ¬ p0.toInt = 4 := z_ne s6_4
  refine lv_tableOut (tgt := 76) hx hb dX19_told_6 (show p0.toInt < 0 ∨ 4 < p0.toInt by omega) (by decide) ?_
  refine lv_aload_n hx hb dX19_told_76 rfl (lv_at hl 0 rfl) ?_
  refine lv_iconst (v := 1) hx hb dX19_told_77 (by decide) ?_
  have hPc := hP.sub (ws' := [(h0, .inr (16, [.ref q_1, .ref q_12, .ref q_17, .ref q_22, .ref q_24, .ref q_26, .ref q_28, .ref q_29, .ref q_31, .ref q_33, .ref q_35, .int 0, .ref q_37, .ref q_39, .ref q_41, .ref q_43, .ref q_45, .ref q_47, .ref q_49, .ref q_51, .ref q_53, .ref q_55, .ref q_57, .int 0, .ref q_59, .ref q_61, .ref q_63, .int (-1), .int 0, .int 0, .int 0, .int 0, .ref q_65, .int 0, .ref q_68, .int 0, .int (-1), .int 0, .int 0, .ref q_70, .ref q_72]))]) [0] rfl
  have hDc := hD.sub (ws' := [(h0, .inr (16, [.ref q_1, .ref q_12, .ref q_17, .ref q_22, .ref q_24, .ref q_26, .ref q_28, .ref q_29, .ref q_31, .ref q_33, .ref q_35, .int 0, .ref q_37, .ref q_39, .ref q_41, .ref q_43, .ref q_45, .ref q_47, .ref q_49, .ref q_51, .ref q_53, .ref q_55, .ref q_57, .int 0, .ref q_59, .ref q_61, .ref q_63, .int (-1), .int 0, .int 0, .int 0, .int 0, .ref q_65, .int 0, .ref q_68, .int 0, .int (-1), .int 0, .int 0, .ref q_70, .ref q_72]))]) [0] (by decide) rfl
  have hKc := hK.sub (tys' := []) [] rfl
  have hFc := va_free (wc := [(h0, .inr (16, [.ref q_1, .ref q_12, .ref q_17, .ref q_22, .ref q_24, .ref q_26, .ref q_28, .ref q_29, .ref q_31, .ref q_33, .ref q_35, .int 0, .ref q_37, .ref q_39, .ref q_41, .ref q_43, .ref q_45, .ref q_47, .ref q_49, .ref q_51, .ref q_53, .ref q_55, .ref q_57, .int 0, .ref q_59, .ref q_61, .ref q_63, .int (-1), .int 0, .int 0, .int 0, .int 0, .ref q_65, .int 0, .ref q_68, .int 0, .int (-1), .int 0, .int 0, .ref q_70, .ref q_72]))]) hD hS hA [0] rfl
  refine va_calli (va_runV (As := [.int 1]) (rest := []) ⟨hx, hb, hml, hown, hts⟩ (c_X19_no l dC dI h0 q_1 q_12 q_17 q_22 q_24 q_26 q_28 q_29 q_31 q_33 q_35 q_37 q_39 q_41 q_43 q_45 q_47 q_49 q_51 q_53 q_55 q_57 q_59 q_61 q_63 q_65 q_68 q_70 q_72 1 H.size) (cwV 1 hts g_X19_told_X19_no rfl rfl rfl (by decide +kernel) ⟨(Nat.le_of_ble_eq_true rfl), (Nat.le_of_ble_eq_true rfl)⟩) ⟨fun a U g mk q => by obtain ⟨q0, q1, qP, qK, qD⟩ := q; exact ⟨q0, q1, qP, va_K.moved (u := U) (U := U.calling g mk a) (Vm.Alike.refl U.vm) qK, qD⟩, va_recv hKc hPc (ci := 16) (q0 := 0) rfl rfl, fun U hU hW => ⟨rfl, by rw [hU], by rw [hU]; exact hPc, va_K.moved hW.alike hKc, hDc.weaken (fun _ _ _ _ => trivial)⟩⟩ rfl rfl hl.1 rfl (lv_room (Nat.le_of_ble_eq_true rfl)) dX19_told_78 ⟨(Nat.le_of_ble_eq_true rfl), (Nat.le_of_ble_eq_true rfl)⟩) hS (fun q _ h => hFc q h) hFc (fun r_2001 u t H1 locs ht hvm hw hB hz1 hk1 hS => ?_)
  obtain ⟨hP1, hK1, hD1⟩ := hB
  rw [ht] at hP1
  have hK1 := va_K.moved hvm.symm hK1
  obtain ⟨hP, hD⟩ := va_join (wr := []) (w1 := [(h0, .inr (16, [.ref q_1, .ref q_12, .ref q_17, .ref q_22, .ref q_24, .ref q_26, .ref q_28, .ref q_29, .ref q_31, .ref q_33, .ref q_35, .int 0, .ref q_37, .ref q_39, .ref q_41, .ref q_43, .ref q_45, .ref q_47, .ref q_49, .ref q_51, .ref q_53, .ref q_55, .ref q_57, .int 0, .ref q_59, .ref q_61, .ref q_63, .int (-1), .int 0, .int 0, .int 0, .int 0, .ref q_65, .int 1, .ref q_68, .int 0, .int (-1), .int 0, .int 0, .ref q_70, .ref q_72]))]) hP hD [0] [] rfl rfl (by decide) (by decide) hk1 hFc hP1 hD1
  have hK := (hK.sub (tys' := []) [] rfl).app hK1
  generalize H1 = H at hP hS ⊢
  have hP : va_P (dC, dI) vwP [(h0, .inr (16, [.ref q_1, .ref q_12, .ref q_17, .ref q_22, .ref q_24, .ref q_26, .ref q_28, .ref q_29, .ref q_31, .ref q_33, .ref q_35, .int 0, .ref q_37, .ref q_39, .ref q_41, .ref q_43, .ref q_45, .ref q_47, .ref q_49, .ref q_51, .ref q_53, .ref q_55, .ref q_57, .int 0, .ref q_59, .ref q_61, .ref q_63, .int (-1), .int 0, .int 0, .int 0, .int 0, .ref q_65, .int 1, .ref q_68, .int 0, .int (-1), .int 0, .int 0, .ref q_70, .ref q_72]))] H := hP
  have hD : va_D A [(h0, .inr (16, [.ref q_1, .ref q_12, .ref q_17, .ref q_22, .ref q_24, .ref q_26, .ref q_28, .ref q_29, .ref q_31, .ref q_33, .ref q_35, .int 0, .ref q_37, .ref q_39, .ref q_41, .ref q_43, .ref q_45, .ref q_47, .ref q_49, .ref q_51, .ref q_53, .ref q_55, .ref q_57, .int 0, .ref q_59, .ref q_61, .ref q_63, .int (-1), .int 0, .int 0, .int 0, .int 0, .ref q_65, .int 1, .ref q_68, .int 0, .int (-1), .int 0, .int 0, .ref q_70, .ref q_72]))] := hD
  have hK : va_K (dC, dI) vwP [] s := hK
  refine W.widen (k := 0) (n := 0) (Nat.le_of_ble_eq_true rfl) (Nat.le_of_ble_eq_true rfl) ?_
  obtain rfl : r_2001 = 0 := hw
  have zs6_0 : ¬ p0.toInt = 0 := z_ne s6_0
  have zs6_1 : ¬ p0.toInt = 1 := z_ne s6_1
  have zs6_2 : ¬ p0.toInt = 2 := z_ne s6_2
  have zs6_3 : ¬ p0.toInt = 3 := z_ne s6_3
  have zs6_4 : ¬ p0.toInt = 4 := z_ne s6_4
  refine W.widen (k := 0) (n := 0) (Nat.le_of_ble_eq_true rfl) (Nat.le_of_ble_eq_true rfl) ?_
  exact W.iret (v := 0) hx hb hr (fun t ht hW => ⟨⟨0, (), rfl, (fun h9 => absurd ((show kf_told p0 = 1 by unfold kf_told; first | rfl | (split <;> first | rfl | (exfalso; omega))).symm.trans h9) (by decide)), 1, 0, (-1), 0, q_72, (show kf_told p0 = 1 by unfold kf_told; first | rfl | (split <;> first | rfl | (exfalso; omega))).symm, by rw [ht]; exact hP, va_K.moved hW.alike hK, hD⟩, hS.F ht⟩) hS.2.2 dX19_told_81
theorem dX19_shown_0 : decode cX19_shown 0 = .ok (.aload_n 0, 1) := by decide +kernel
theorem dX19_shown_1 : decode cX19_shown 1 = .ok (.iconst 0, 1) := by decide +kernel
theorem dX19_shown_2 : decode cX19_shown 2 = .ok (.putfield 560, 3) := by decide +kernel
theorem dX19_shown_5 : decode cX19_shown 5 = .ok (.iload_n 1, 1) := by decide +kernel
theorem dX19_shown_6 : decode cX19_shown 6 = .ok (.ifCond .lt 20, 3) := by decide +kernel
theorem dX19_shown_26 : decode cX19_shown 26 = .ok (.aload_n 0, 1) := by decide +kernel
theorem dX19_shown_27 : decode cX19_shown 27 = .ok (.iconst 1, 1) := by decide +kernel
theorem dX19_shown_28 : decode cX19_shown 28 = .ok (.invokevirtual 565, 3) := by decide +kernel
theorem dX19_shown_31 : decode cX19_shown 31 = .ok (.ireturn, 1) := by decide +kernel
theorem dX19_shown_9 : decode cX19_shown 9 = .ok (.iload_n 1, 1) := by decide +kernel
theorem dX19_shown_10 : decode cX19_shown 10 = .ok (.aload_n 0, 1) := by decide +kernel
theorem dX19_shown_11 : decode cX19_shown 11 = .ok (.getfield 466, 3) := by decide +kernel
theorem dX19_shown_14 : decode cX19_shown 14 = .ok (.if_icmp .ge 12, 3) := by decide +kernel
def o_X19_shown : List Cond := [.fieldLink RX19 560 "SsaForgeModel" "thrown" "I", .methodLink RX19 565 yX19_no, .instanceMethod yX19_no, .selects RX19 yX19_no yX19_no, .initialized RX19, .fieldLink RX19 466 "SsaForgeModel" "shown" "I"]
def v_X19_shown : List Cond := .code yX19_shown cX19_shown 2 (some .int) :: (o_X19_shown ++ (wsX190 ++ (v_X19_no ++ [])))
theorem mow_X19_shown : ∀ w ∈ o_X19_shown, w ∈ v_X19_shown := fun _ h => List.mem_cons_of_mem _ (List.mem_append_left _ h)
theorem mem_X19_shown_0 : ∀ w ∈ wsX190, w ∈ v_X19_shown := fun _ h => List.mem_cons_of_mem _ (List.mem_append_right _ (List.mem_append_left _ h))
theorem mem_X19_shown_1 : ∀ w ∈ v_X19_no, w ∈ v_X19_shown := fun _ h => List.mem_cons_of_mem _ (List.mem_append_right _ (List.mem_append_right _ (List.mem_append_left _ h)))
set_option maxRecDepth 20000 in
theorem gw_X19_shown : v_X19_shown.all goodWord = true := by decide +kernel
set_option maxRecDepth 20000 in
theorem g_X19_shown_X19_no : GoodIn v_X19_shown (wsV RX19 565 RX19 yX19_no v_X19_no) := goodIn_app (goodIn_sub (fun w h => mow_X19_shown w (by revert w h; decide +kernel)) (by decide +kernel)) (goodIn_sub mem_X19_shown_1 gw_X19_no)
set_option maxHeartbeats 4000000 in
set_option maxRecDepth 100000 in
theorem c_X19_shown (l : Launch) (dC : Nat → ClassId) (dI : Nat → Nat → Nat) (h0 : Nat) (q_1 : Nat) (q_12 : Nat) (q_17 : Nat) (q_22 : Nat) (q_24 : Nat) (q_26 : Nat) (q_28 : Nat) (q_29 : Nat) (q_31 : Nat) (q_33 : Nat) (q_35 : Nat) (q_37 : Nat) (q_39 : Nat) (q_41 : Nat) (q_43 : Nat) (q_45 : Nat) (q_47 : Nat) (q_49 : Nat) (q_51 : Nat) (q_53 : Nat) (q_55 : Nat) (q_57 : Nat) (q_59 : Nat) (q_61 : Nat) (q_63 : Nat) (q_65 : Nat) (q_68 : Nat) (q_70 : Nat) (q_72 : Nat) (p0 : Int32) (sz : Nat) : Met l yX19_shown v_X19_shown ({ frames := 1, cells := 0, slots := 0, locals := 21 }) (va_Pc [.ref h0, .int p0] (fun U => U.heap.size = sz ∧ va_P (dC, dI) vwP [(h0, .inr (16, [.ref q_1, .ref q_12, .ref q_17, .ref q_22, .ref q_24, .ref q_26, .ref q_28, .ref q_29, .ref q_31, .ref q_33, .ref q_35, .int 0, .ref q_37, .ref q_39, .ref q_41, .ref q_43, .ref q_45, .ref q_47, .ref q_49, .ref q_51, .ref q_53, .ref q_55, .ref q_57, .int 0, .ref q_59, .ref q_61, .ref q_63, .int (-1), .int 0, .int 0, .int 0, .int 0, .ref q_65, .int 0, .ref q_68, .int 0, .int (-1), .int 0, .int 0, .ref q_70, .ref q_72]))] U.heap ∧ va_K (dC, dI) vwP [] U ∧ va_D (fun _ => True) [(h0, .inr (16, [.ref q_1, .ref q_12, .ref q_17, .ref q_22, .ref q_24, .ref q_26, .ref q_28, .ref q_29, .ref q_31, .ref q_33, .ref q_35, .int 0, .ref q_37, .ref q_39, .ref q_41, .ref q_43, .ref q_45, .ref q_47, .ref q_49, .ref q_51, .ref q_53, .ref q_55, .ref q_57, .int 0, .ref q_59, .ref q_61, .ref q_63, .int (-1), .int 0, .int 0, .int 0, .int 0, .ref q_65, .int 0, .ref q_68, .int 0, .int (-1), .int 0, .int 0, .ref q_70, .ref q_72]))])) (va_Qi (fun (r : Int32) (_ : Unit) => kf_shown = 0 → r = vf_shown) (fun (_ : Unit) (t : State) => ∃ (i_33 : Int32) (i_35 : Int32) (i_36 : Int32) (i_37 : Int32) (q_940 : Nat), (i_33 = kf_shown) ∧ va_P (dC, dI) vwP [(h0, .inr (16, [.ref q_1, .ref q_12, .ref q_17, .ref q_22, .ref q_24, .ref q_26, .ref q_28, .ref q_29, .ref q_31, .ref q_33, .ref q_35, .int 0, .ref q_37, .ref q_39, .ref q_41, .ref q_43, .ref q_45, .ref q_47, .ref q_49, .ref q_51, .ref q_53, .ref q_55, .ref q_57, .int 0, .ref q_59, .ref q_61, .ref q_63, .int (-1), .int 0, .int 0, .int 0, .int 0, .ref q_65, .int i_33, .ref q_68, .int i_35, .int i_36, .int i_37, .int 0, .ref q_70, .ref q_940]))] t.heap ∧ va_K (dC, dI) vwP [] t ∧ va_D (va_A [(h0, .inr (16, [.ref q_1, .ref q_12, .ref q_17, .ref q_22, .ref q_24, .ref q_26, .ref q_28, .ref q_29, .ref q_31, .ref q_33, .ref q_35, .int 0, .ref q_37, .ref q_39, .ref q_41, .ref q_43, .ref q_45, .ref q_47, .ref q_49, .ref q_51, .ref q_53, .ref q_55, .ref q_57, .int 0, .ref q_59, .ref q_61, .ref q_63, .int (-1), .int 0, .int 0, .int 0, .int 0, .ref q_65, .int 0, .ref q_68, .int 0, .int (-1), .int 0, .int 0, .ref q_70, .ref q_72]))] sz) [(h0, .inr (16, [.ref q_1, .ref q_12, .ref q_17, .ref q_22, .ref q_24, .ref q_26, .ref q_28, .ref q_29, .ref q_31, .ref q_33, .ref q_35, .int 0, .ref q_37, .ref q_39, .ref q_41, .ref q_43, .ref q_45, .ref q_47, .ref q_49, .ref q_51, .ref q_53, .ref q_55, .ref q_57, .int 0, .ref q_59, .ref q_61, .ref q_63, .int (-1), .int 0, .int 0, .int 0, .int 0, .ref q_65, .int i_33, .ref q_68, .int i_35, .int i_36, .int i_37, .int 0, .ref q_70, .ref q_940]))]) (va_A [(h0, .inr (16, [.ref q_1, .ref q_12, .ref q_17, .ref q_22, .ref q_24, .ref q_26, .ref q_28, .ref q_29, .ref q_31, .ref q_33, .ref q_35, .int 0, .ref q_37, .ref q_39, .ref q_41, .ref q_43, .ref q_45, .ref q_47, .ref q_49, .ref q_51, .ref q_53, .ref q_55, .ref q_57, .int 0, .ref q_59, .ref q_61, .ref q_63, .int (-1), .int 0, .int 0, .int 0, .int 0, .ref q_65, .int 0, .ref q_68, .int 0, .int (-1), .int 0, .int 0, .ref q_70, .ref q_72]))] sz)) 0 0 (va_A [(h0, .inr (16, [.ref q_1, .ref q_12, .ref q_17, .ref q_22, .ref q_24, .ref q_26, .ref q_28, .ref q_29, .ref q_31, .ref q_33, .ref q_35, .int 0, .ref q_37, .ref q_39, .ref q_41, .ref q_43, .ref q_45, .ref q_47, .ref q_49, .ref q_51, .ref q_53, .ref q_55, .ref q_57, .int 0, .ref q_59, .ref q_61, .ref q_63, .int (-1), .int 0, .int 0, .int 0, .int 0, .ref q_65, .int 0, .ref q_68, .int 0, .int (-1), .int 0, .int 0, .ref q_70, .ref q_72]))] sz) := by
  refine Met.ofW (cc := cX19_shown) (maxL := 2) (ret := (some .int)) (by decide) rfl ?_
  intro p e s m args below meth c s₁ B hml hv
  obtain ⟨rfl, hsz, hP, hK, hD0⟩ := hv
  have hx := B.exec
  have hb := B.bytes
  have hr := B.returns
  have hts := atoms_spec (ws := v_X19_shown) B.pre
  have hown : s.vm.findClass RX19 = some m.cls := findClass_of_methodNamed B.named
  have hlocks := B.notSynchronized
  have ow : ∀ {k : Nat} {w : Cond}, o_X19_shown[k]? = some w → w.before ([.ref h0, .int p0] : List Value).toArray s = true := fun h => hts _ (mow_X19_shown _ (List.mem_of_getElem? h))
  subst hsz
  have hD := hD0.self (sz := s.heap.size)
  generalize hAe : va_A [(h0, .inr (16, [.ref q_1, .ref q_12, .ref q_17, .ref q_22, .ref q_24, .ref q_26, .ref q_28, .ref q_29, .ref q_31, .ref q_33, .ref q_35, .int 0, .ref q_37, .ref q_39, .ref q_41, .ref q_43, .ref q_45, .ref q_47, .ref q_49, .ref q_51, .ref q_53, .ref q_55, .ref q_57, .int 0, .ref q_59, .ref q_61, .ref q_63, .int (-1), .int 0, .int 0, .int 0, .int 0, .ref q_65, .int 0, .ref q_68, .int 0, .int (-1), .int 0, .int 0, .ref q_70, .ref q_72]))] s.heap.size = A at hD ⊢
  have hA : ∀ q : Nat, s.heap.size ≤ q → A q := fun q h => by rw [← hAe]; exact Or.inr h
  have hS : va_S A s.heap s.heap [] := va_S.rf
  have hP : va_P (dC, dI) vwP [(h0, .inr (16, [.ref q_1, .ref q_12, .ref q_17, .ref q_22, .ref q_24, .ref q_26, .ref q_28, .ref q_29, .ref q_31, .ref q_33, .ref q_35, .int 0, .ref q_37, .ref q_39, .ref q_41, .ref q_43, .ref q_45, .ref q_47, .ref q_49, .ref q_51, .ref q_53, .ref q_55, .ref q_57, .int 0, .ref q_59, .ref q_61, .ref q_63, .int (-1), .int 0, .int 0, .int 0, .int 0, .ref q_65, .int 0, .ref q_68, .int 0, .int (-1), .int 0, .int 0, .ref q_70, .ref q_72]))] s.heap := hP
  have hl := lv_entry ([.ref h0, .int p0]) (n := 2) (Nat.le_of_ble_eq_true rfl)
  rw [lg_entry_eq]
  generalize (lg_sl ([.ref h0, .int p0]) ++ List.replicate (2 - (lg_sl ([.ref h0, .int p0])).length) Slot.unset).toArray = ls at hl ⊢
  have hl : lv_has ls 2 [(0, .ref h0), (1, .int p0)] := hl
  obtain ⟨H, hH⟩ : ∃ H, H = s.heap := ⟨_, rfl⟩
  rw [← hH] at hP
  have hS : va_S A s.heap H [] := by rw [hH]; exact hS
  rw [← hH]
  refine lv_aload_n hx hb dX19_shown_0 rfl (lv_at hl 0 rfl) ?_
  refine lv_iconst (v := 0) hx hb dX19_shown_1 (by decide) ?_
  refine va_put (D := (dC, dI)) (ci := 16) (v := .int 0) (ty := .int) (C := RX19) (T := TX19) (N := 41) hx hb hts mem_X19_shown_0 tyX19 tyX19_ok nmX19 hown hK hP hD hS 0 rfl rfl 33 (by decide) (ow (k := 0) rfl) (fun _ h9 => h9) rfl (by decide +kernel) rfl rfl (Nat.le_of_ble_eq_true rfl) dX19_shown_2 (fun H locs hP hD hS => ?_)
  have hP : va_P (dC, dI) vwP [(h0, .inr (16, [.ref q_1, .ref q_12, .ref q_17, .ref q_22, .ref q_24, .ref q_26, .ref q_28, .ref q_29, .ref q_31, .ref q_33, .ref q_35, .int 0, .ref q_37, .ref q_39, .ref q_41, .ref q_43, .ref q_45, .ref q_47, .ref q_49, .ref q_51, .ref q_53, .ref q_55, .ref q_57, .int 0, .ref q_59, .ref q_61, .ref q_63, .int (-1), .int 0, .int 0, .int 0, .int 0, .ref q_65, .int 0, .ref q_68, .int 0, .int (-1), .int 0, .int 0, .ref q_70, .ref q_72]))] H := hP
  have hD : va_D A [(h0, .inr (16, [.ref q_1, .ref q_12, .ref q_17, .ref q_22, .ref q_24, .ref q_26, .ref q_28, .ref q_29, .ref q_31, .ref q_33, .ref q_35, .int 0, .ref q_37, .ref q_39, .ref q_41, .ref q_43, .ref q_45, .ref q_47, .ref q_49, .ref q_51, .ref q_53, .ref q_55, .ref q_57, .int 0, .ref q_59, .ref q_61, .ref q_63, .int (-1), .int 0, .int 0, .int 0, .int 0, .ref q_65, .int 0, .ref q_68, .int 0, .int (-1), .int 0, .int 0, .ref q_70, .ref q_72]))] := hD
  refine lv_iload_n hx hb dX19_shown_5 rfl (lv_at hl 1 rfl) ?_
  refine lv_if_lt (tgt := 26) hx hb dX19_shown_6 (by decide) (fun b6 => ?_) (fun b6 => ?_)
  · refine lv_aload_n hx hb dX19_shown_26 rfl (lv_at hl 0 rfl) ?_
    refine lv_iconst (v := 1) hx hb dX19_shown_27 (by decide) ?_
    have hPc := hP.sub (ws' := [(h0, .inr (16, [.ref q_1, .ref q_12, .ref q_17, .ref q_22, .ref q_24, .ref q_26, .ref q_28, .ref q_29, .ref q_31, .ref q_33, .ref q_35, .int 0, .ref q_37, .ref q_39, .ref q_41, .ref q_43, .ref q_45, .ref q_47, .ref q_49, .ref q_51, .ref q_53, .ref q_55, .ref q_57, .int 0, .ref q_59, .ref q_61, .ref q_63, .int (-1), .int 0, .int 0, .int 0, .int 0, .ref q_65, .int 0, .ref q_68, .int 0, .int (-1), .int 0, .int 0, .ref q_70, .ref q_72]))]) [0] rfl
    have hDc := hD.sub (ws' := [(h0, .inr (16, [.ref q_1, .ref q_12, .ref q_17, .ref q_22, .ref q_24, .ref q_26, .ref q_28, .ref q_29, .ref q_31, .ref q_33, .ref q_35, .int 0, .ref q_37, .ref q_39, .ref q_41, .ref q_43, .ref q_45, .ref q_47, .ref q_49, .ref q_51, .ref q_53, .ref q_55, .ref q_57, .int 0, .ref q_59, .ref q_61, .ref q_63, .int (-1), .int 0, .int 0, .int 0, .int 0, .ref q_65, .int 0, .ref q_68, .int 0, .int (-1), .int 0, .int 0, .ref q_70, .ref q_72]))]) [0] (by decide) rfl
    have hKc := hK.sub (tys' := []) [] rfl
    have hFc := va_free (wc := [(h0, .inr (16, [.ref q_1, .ref q_12, .ref q_17, .ref q_22, .ref q_24, .ref q_26, .ref q_28, .ref q_29, .ref q_31, .ref q_33, .ref q_35, .int 0, .ref q_37, .ref q_39, .ref q_41, .ref q_43, .ref q_45, .ref q_47, .ref q_49, .ref q_51, .ref q_53, .ref q_55, .ref q_57, .int 0, .ref q_59, .ref q_61, .ref q_63, .int (-1), .int 0, .int 0, .int 0, .int 0, .ref q_65, .int 0, .ref q_68, .int 0, .int (-1), .int 0, .int 0, .ref q_70, .ref q_72]))]) hD hS hA [0] rfl
    refine va_calli (va_runV (As := [.int 1]) (rest := []) ⟨hx, hb, hml, hown, hts⟩ (c_X19_no l dC dI h0 q_1 q_12 q_17 q_22 q_24 q_26 q_28 q_29 q_31 q_33 q_35 q_37 q_39 q_41 q_43 q_45 q_47 q_49 q_51 q_53 q_55 q_57 q_59 q_61 q_63 q_65 q_68 q_70 q_72 1 H.size) (cwV 1 hts g_X19_shown_X19_no rfl rfl rfl (by decide +kernel) ⟨(Nat.le_of_ble_eq_true rfl), (Nat.le_of_ble_eq_true rfl)⟩) ⟨fun a U g mk q => by obtain ⟨q0, q1, qP, qK, qD⟩ := q; exact ⟨q0, q1, qP, va_K.moved (u := U) (U := U.calling g mk a) (Vm.Alike.refl U.vm) qK, qD⟩, va_recv hKc hPc (ci := 16) (q0 := 0) rfl rfl, fun U hU hW => ⟨rfl, by rw [hU], by rw [hU]; exact hPc, va_K.moved hW.alike hKc, hDc.weaken (fun _ _ _ _ => trivial)⟩⟩ rfl rfl hl.1 rfl (lv_room (Nat.le_of_ble_eq_true rfl)) dX19_shown_28 ⟨(Nat.le_of_ble_eq_true rfl), (Nat.le_of_ble_eq_true rfl)⟩) hS (fun q _ h => hFc q h) hFc (fun r_2001 u t H1 locs ht hvm hw hB hz1 hk1 hS => ?_)
    obtain ⟨hP1, hK1, hD1⟩ := hB
    rw [ht] at hP1
    have hK1 := va_K.moved hvm.symm hK1
    obtain ⟨hP, hD⟩ := va_join (wr := []) (w1 := [(h0, .inr (16, [.ref q_1, .ref q_12, .ref q_17, .ref q_22, .ref q_24, .ref q_26, .ref q_28, .ref q_29, .ref q_31, .ref q_33, .ref q_35, .int 0, .ref q_37, .ref q_39, .ref q_41, .ref q_43, .ref q_45, .ref q_47, .ref q_49, .ref q_51, .ref q_53, .ref q_55, .ref q_57, .int 0, .ref q_59, .ref q_61, .ref q_63, .int (-1), .int 0, .int 0, .int 0, .int 0, .ref q_65, .int 1, .ref q_68, .int 0, .int (-1), .int 0, .int 0, .ref q_70, .ref q_72]))]) hP hD [0] [] rfl rfl (by decide) (by decide) hk1 hFc hP1 hD1
    have hK := (hK.sub (tys' := []) [] rfl).app hK1
    generalize H1 = H at hP hS ⊢
    have hP : va_P (dC, dI) vwP [(h0, .inr (16, [.ref q_1, .ref q_12, .ref q_17, .ref q_22, .ref q_24, .ref q_26, .ref q_28, .ref q_29, .ref q_31, .ref q_33, .ref q_35, .int 0, .ref q_37, .ref q_39, .ref q_41, .ref q_43, .ref q_45, .ref q_47, .ref q_49, .ref q_51, .ref q_53, .ref q_55, .ref q_57, .int 0, .ref q_59, .ref q_61, .ref q_63, .int (-1), .int 0, .int 0, .int 0, .int 0, .ref q_65, .int 1, .ref q_68, .int 0, .int (-1), .int 0, .int 0, .ref q_70, .ref q_72]))] H := hP
    have hD : va_D A [(h0, .inr (16, [.ref q_1, .ref q_12, .ref q_17, .ref q_22, .ref q_24, .ref q_26, .ref q_28, .ref q_29, .ref q_31, .ref q_33, .ref q_35, .int 0, .ref q_37, .ref q_39, .ref q_41, .ref q_43, .ref q_45, .ref q_47, .ref q_49, .ref q_51, .ref q_53, .ref q_55, .ref q_57, .int 0, .ref q_59, .ref q_61, .ref q_63, .int (-1), .int 0, .int 0, .int 0, .int 0, .ref q_65, .int 1, .ref q_68, .int 0, .int (-1), .int 0, .int 0, .ref q_70, .ref q_72]))] := hD
    have hK : va_K (dC, dI) vwP [] s := hK
    refine W.widen (k := 0) (n := 0) (Nat.le_of_ble_eq_true rfl) (Nat.le_of_ble_eq_true rfl) ?_
    obtain rfl : r_2001 = 0 := hw
    have zb6 : p0.toInt < 0 := z_lt b6
    refine W.widen (k := 0) (n := 0) (Nat.le_of_ble_eq_true rfl) (Nat.le_of_ble_eq_true rfl) ?_
    exact W.iret (v := 0) hx hb hr (fun t ht hW => ⟨⟨0, (), rfl, (fun h9 => absurd ((show kf_shown = 1 by unfold kf_shown; first | rfl | (split <;> first | rfl | (exfalso; omega))).symm.trans h9) (by decide)), 1, 0, (-1), 0, q_72, (show kf_shown = 1 by unfold kf_shown; first | rfl | (split <;> first | rfl | (exfalso; omega))).symm, by rw [ht]; exact hP, va_K.moved hW.alike hK, hD⟩, hS.F ht⟩) hS.2.2 dX19_shown_31
  · refine lv_iload_n hx hb dX19_shown_9 rfl (lv_at hl 1 rfl) ?_
    refine lv_aload_n hx hb dX19_shown_10 rfl (lv_at hl 0 rfl) ?_
    refine va_get (D := (dC, dI)) (ci := 16) (v := .int 0) (C := RX19) (T := TX19) (N := 41) hx hb hts mem_X19_shown_0 hown hK hP 0 rfl rfl 29 (by decide) (ow (k := 5) rfl) (fun _ h9 => h9) rfl dX19_shown_11 ?_
    refine lv_icmp_ge (tgt := 26) hx hb dX19_shown_14 (by decide) (fun _ => ?_) (fun h9 => absurd h9 (fun h8 => h8 (Int32.le_iff_toInt_le.mpr (z_nlt b6))))
    refine lv_aload_n hx hb dX19_shown_26 rfl (lv_at hl 0 rfl) ?_
    refine lv_iconst (v := 1) hx hb dX19_shown_27 (by decide) ?_
    have hPc := hP.sub (ws' := [(h0, .inr (16, [.ref q_1, .ref q_12, .ref q_17, .ref q_22, .ref q_24, .ref q_26, .ref q_28, .ref q_29, .ref q_31, .ref q_33, .ref q_35, .int 0, .ref q_37, .ref q_39, .ref q_41, .ref q_43, .ref q_45, .ref q_47, .ref q_49, .ref q_51, .ref q_53, .ref q_55, .ref q_57, .int 0, .ref q_59, .ref q_61, .ref q_63, .int (-1), .int 0, .int 0, .int 0, .int 0, .ref q_65, .int 0, .ref q_68, .int 0, .int (-1), .int 0, .int 0, .ref q_70, .ref q_72]))]) [0] rfl
    have hDc := hD.sub (ws' := [(h0, .inr (16, [.ref q_1, .ref q_12, .ref q_17, .ref q_22, .ref q_24, .ref q_26, .ref q_28, .ref q_29, .ref q_31, .ref q_33, .ref q_35, .int 0, .ref q_37, .ref q_39, .ref q_41, .ref q_43, .ref q_45, .ref q_47, .ref q_49, .ref q_51, .ref q_53, .ref q_55, .ref q_57, .int 0, .ref q_59, .ref q_61, .ref q_63, .int (-1), .int 0, .int 0, .int 0, .int 0, .ref q_65, .int 0, .ref q_68, .int 0, .int (-1), .int 0, .int 0, .ref q_70, .ref q_72]))]) [0] (by decide) rfl
    have hKc := hK.sub (tys' := []) [] rfl
    have hFc := va_free (wc := [(h0, .inr (16, [.ref q_1, .ref q_12, .ref q_17, .ref q_22, .ref q_24, .ref q_26, .ref q_28, .ref q_29, .ref q_31, .ref q_33, .ref q_35, .int 0, .ref q_37, .ref q_39, .ref q_41, .ref q_43, .ref q_45, .ref q_47, .ref q_49, .ref q_51, .ref q_53, .ref q_55, .ref q_57, .int 0, .ref q_59, .ref q_61, .ref q_63, .int (-1), .int 0, .int 0, .int 0, .int 0, .ref q_65, .int 0, .ref q_68, .int 0, .int (-1), .int 0, .int 0, .ref q_70, .ref q_72]))]) hD hS hA [0] rfl
    refine va_calli (va_runV (As := [.int 1]) (rest := []) ⟨hx, hb, hml, hown, hts⟩ (c_X19_no l dC dI h0 q_1 q_12 q_17 q_22 q_24 q_26 q_28 q_29 q_31 q_33 q_35 q_37 q_39 q_41 q_43 q_45 q_47 q_49 q_51 q_53 q_55 q_57 q_59 q_61 q_63 q_65 q_68 q_70 q_72 1 H.size) (cwV 1 hts g_X19_shown_X19_no rfl rfl rfl (by decide +kernel) ⟨(Nat.le_of_ble_eq_true rfl), (Nat.le_of_ble_eq_true rfl)⟩) ⟨fun a U g mk q => by obtain ⟨q0, q1, qP, qK, qD⟩ := q; exact ⟨q0, q1, qP, va_K.moved (u := U) (U := U.calling g mk a) (Vm.Alike.refl U.vm) qK, qD⟩, va_recv hKc hPc (ci := 16) (q0 := 0) rfl rfl, fun U hU hW => ⟨rfl, by rw [hU], by rw [hU]; exact hPc, va_K.moved hW.alike hKc, hDc.weaken (fun _ _ _ _ => trivial)⟩⟩ rfl rfl hl.1 rfl (lv_room (Nat.le_of_ble_eq_true rfl)) dX19_shown_28 ⟨(Nat.le_of_ble_eq_true rfl), (Nat.le_of_ble_eq_true rfl)⟩) hS (fun q _ h => hFc q h) hFc (fun r_2002 u t H1 locs ht hvm hw hB hz1 hk1 hS => ?_)
    obtain ⟨hP1, hK1, hD1⟩ := hB
    rw [ht] at hP1
    have hK1 := va_K.moved hvm.symm hK1
    obtain ⟨hP, hD⟩ := va_join (wr := []) (w1 := [(h0, .inr (16, [.ref q_1, .ref q_12, .ref q_17, .ref q_22, .ref q_24, .ref q_26, .ref q_28, .ref q_29, .ref q_31, .ref q_33, .ref q_35, .int 0, .ref q_37, .ref q_39, .ref q_41, .ref q_43, .ref q_45, .ref q_47, .ref q_49, .ref q_51, .ref q_53, .ref q_55, .ref q_57, .int 0, .ref q_59, .ref q_61, .ref q_63, .int (-1), .int 0, .int 0, .int 0, .int 0, .ref q_65, .int 1, .ref q_68, .int 0, .int (-1), .int 0, .int 0, .ref q_70, .ref q_72]))]) hP hD [0] [] rfl rfl (by decide) (by decide) hk1 hFc hP1 hD1
    have hK := (hK.sub (tys' := []) [] rfl).app hK1
    generalize H1 = H at hP hS ⊢
    have hP : va_P (dC, dI) vwP [(h0, .inr (16, [.ref q_1, .ref q_12, .ref q_17, .ref q_22, .ref q_24, .ref q_26, .ref q_28, .ref q_29, .ref q_31, .ref q_33, .ref q_35, .int 0, .ref q_37, .ref q_39, .ref q_41, .ref q_43, .ref q_45, .ref q_47, .ref q_49, .ref q_51, .ref q_53, .ref q_55, .ref q_57, .int 0, .ref q_59, .ref q_61, .ref q_63, .int (-1), .int 0, .int 0, .int 0, .int 0, .ref q_65, .int 1, .ref q_68, .int 0, .int (-1), .int 0, .int 0, .ref q_70, .ref q_72]))] H := hP
    have hD : va_D A [(h0, .inr (16, [.ref q_1, .ref q_12, .ref q_17, .ref q_22, .ref q_24, .ref q_26, .ref q_28, .ref q_29, .ref q_31, .ref q_33, .ref q_35, .int 0, .ref q_37, .ref q_39, .ref q_41, .ref q_43, .ref q_45, .ref q_47, .ref q_49, .ref q_51, .ref q_53, .ref q_55, .ref q_57, .int 0, .ref q_59, .ref q_61, .ref q_63, .int (-1), .int 0, .int 0, .int 0, .int 0, .ref q_65, .int 1, .ref q_68, .int 0, .int (-1), .int 0, .int 0, .ref q_70, .ref q_72]))] := hD
    have hK : va_K (dC, dI) vwP [] s := hK
    refine W.widen (k := 0) (n := 0) (Nat.le_of_ble_eq_true rfl) (Nat.le_of_ble_eq_true rfl) ?_
    obtain rfl : r_2002 = 0 := hw
    have zb6 : 0 ≤ p0.toInt := z_nlt b6
    refine W.widen (k := 0) (n := 0) (Nat.le_of_ble_eq_true rfl) (Nat.le_of_ble_eq_true rfl) ?_
    exact W.iret (v := 0) hx hb hr (fun t ht hW => ⟨⟨0, (), rfl, (fun h9 => absurd ((show kf_shown = 1 by unfold kf_shown; first | rfl | (split <;> first | rfl | (exfalso; omega))).symm.trans h9) (by decide)), 1, 0, (-1), 0, q_72, (show kf_shown = 1 by unfold kf_shown; first | rfl | (split <;> first | rfl | (exfalso; omega))).symm, by rw [ht]; exact hP, va_K.moved hW.alike hK, hD⟩, hS.F ht⟩) hS.2.2 dX19_shown_31
theorem dX19_count_0 : decode cX19_count 0 = .ok (.aload_n 0, 1) := by decide +kernel
theorem dX19_count_1 : decode cX19_count 1 = .ok (.iconst 0, 1) := by decide +kernel
theorem dX19_count_2 : decode cX19_count 2 = .ok (.putfield 560, 3) := by decide +kernel
theorem dX19_count_5 : decode cX19_count 5 = .ok (.aload_n 0, 1) := by decide +kernel
theorem dX19_count_6 : decode cX19_count 6 = .ok (.getfield 555, 3) := by decide +kernel
theorem dX19_count_9 : decode cX19_count 9 = .ok (.ifCond .lt 7, 3) := by decide +kernel
theorem dX19_count_16 : decode cX19_count 16 = .ok (.iconst 0, 1) := by decide +kernel
theorem dX19_count_17 : decode cX19_count 17 = .ok (.istore_n 2, 1) := by decide +kernel
theorem dX19_count_18 : decode cX19_count 18 = .ok (.iload_n 1, 1) := by decide +kernel
theorem dX19_count_19 : decode cX19_count 19 = .ok (.tableswitch 149 0 7 #[45, 50, 66, 82, 98, 134, 139, 144], 45) := by decide +kernel
theorem dX19_count_64 : decode cX19_count 64 = .ok (.aload_n 0, 1) := by decide +kernel
theorem dX19_count_65 : decode cX19_count 65 = .ok (.getfield 555, 3) := by decide +kernel
theorem dX19_count_68 : decode cX19_count 68 = .ok (.ireturn, 1) := by decide +kernel
theorem dX19_count_69 : decode cX19_count 69 = .ok (.iload_n 2, 1) := by decide +kernel
theorem dX19_count_70 : decode cX19_count 70 = .ok (.ifCond .eq 13, 3) := by decide +kernel
theorem dX19_count_83 : decode cX19_count 83 = .ok (.iconst 0, 1) := by decide +kernel
theorem dX19_count_84 : decode cX19_count 84 = .ok (.ireturn, 1) := by decide +kernel
theorem dX19_count_85 : decode cX19_count 85 = .ok (.iload_n 2, 1) := by decide +kernel
theorem dX19_count_86 : decode cX19_count 86 = .ok (.ifCond .eq 13, 3) := by decide +kernel
theorem dX19_count_99 : decode cX19_count 99 = .ok (.iconst 0, 1) := by decide +kernel
theorem dX19_count_100 : decode cX19_count 100 = .ok (.ireturn, 1) := by decide +kernel
theorem dX19_count_101 : decode cX19_count 101 = .ok (.iload_n 2, 1) := by decide +kernel
theorem dX19_count_102 : decode cX19_count 102 = .ok (.ifCond .eq 13, 3) := by decide +kernel
theorem dX19_count_115 : decode cX19_count 115 = .ok (.iconst 0, 1) := by decide +kernel
theorem dX19_count_116 : decode cX19_count 116 = .ok (.ireturn, 1) := by decide +kernel
theorem dX19_count_117 : decode cX19_count 117 = .ok (.iload_n 2, 1) := by decide +kernel
theorem dX19_count_118 : decode cX19_count 118 = .ok (.ifCond .ne 5, 3) := by decide +kernel
theorem dX19_count_121 : decode cX19_count 121 = .ok (.iconst 0, 1) := by decide +kernel
theorem dX19_count_122 : decode cX19_count 122 = .ok (.ireturn, 1) := by decide +kernel
theorem dX19_count_153 : decode cX19_count 153 = .ok (.aload_n 0, 1) := by decide +kernel
theorem dX19_count_154 : decode cX19_count 154 = .ok (.getfield 572, 3) := by decide +kernel
theorem dX19_count_157 : decode cX19_count 157 = .ok (.ireturn, 1) := by decide +kernel
theorem dX19_count_158 : decode cX19_count 158 = .ok (.aload_n 0, 1) := by decide +kernel
theorem dX19_count_159 : decode cX19_count 159 = .ok (.getfield 635, 3) := by decide +kernel
theorem dX19_count_162 : decode cX19_count 162 = .ok (.ireturn, 1) := by decide +kernel
theorem dX19_count_163 : decode cX19_count 163 = .ok (.aload_n 0, 1) := by decide +kernel
theorem dX19_count_164 : decode cX19_count 164 = .ok (.getfield 563, 3) := by decide +kernel
theorem dX19_count_167 : decode cX19_count 167 = .ok (.ireturn, 1) := by decide +kernel
theorem dX19_count_168 : decode cX19_count 168 = .ok (.aload_n 0, 1) := by decide +kernel
theorem dX19_count_169 : decode cX19_count 169 = .ok (.iconst 1, 1) := by decide +kernel
theorem dX19_count_170 : decode cX19_count 170 = .ok (.invokevirtual 565, 3) := by decide +kernel
theorem dX19_count_173 : decode cX19_count 173 = .ok (.ireturn, 1) := by decide +kernel
def o_X19_count : List Cond := [.fieldLink RX19 560 "SsaForgeModel" "thrown" "I", .fieldLink RX19 555 "SsaForgeModel" "form" "I", .fieldLink RX19 572 "SsaForgeModel" "reason" "I", .fieldLink RX19 635 "SsaForgeModel" "results" "I", .fieldLink RX19 563 "SsaForgeModel" "size" "I", .methodLink RX19 565 yX19_no, .instanceMethod yX19_no, .selects RX19 yX19_no yX19_no, .initialized RX19]
def v_X19_count : List Cond := .code yX19_count cX19_count 3 (some .int) :: (o_X19_count ++ (wsX190 ++ (v_X19_no ++ [])))
theorem mow_X19_count : ∀ w ∈ o_X19_count, w ∈ v_X19_count := fun _ h => List.mem_cons_of_mem _ (List.mem_append_left _ h)
theorem mem_X19_count_0 : ∀ w ∈ wsX190, w ∈ v_X19_count := fun _ h => List.mem_cons_of_mem _ (List.mem_append_right _ (List.mem_append_left _ h))
theorem mem_X19_count_1 : ∀ w ∈ v_X19_no, w ∈ v_X19_count := fun _ h => List.mem_cons_of_mem _ (List.mem_append_right _ (List.mem_append_right _ (List.mem_append_left _ h)))
set_option maxRecDepth 20000 in
theorem gw_X19_count : v_X19_count.all goodWord = true := by decide +kernel
set_option maxRecDepth 20000 in
theorem g_X19_count_X19_no : GoodIn v_X19_count (wsV RX19 565 RX19 yX19_no v_X19_no) := goodIn_app (goodIn_sub (fun w h => mow_X19_count w (by revert w h; decide +kernel)) (by decide +kernel)) (goodIn_sub mem_X19_count_1 gw_X19_no)
set_option maxHeartbeats 4000000 in
set_option maxRecDepth 100000 in
theorem c_X19_count (l : Launch) (dC : Nat → ClassId) (dI : Nat → Nat → Nat) (h0 : Nat) (q_1 : Nat) (q_12 : Nat) (q_17 : Nat) (q_22 : Nat) (q_24 : Nat) (q_26 : Nat) (q_28 : Nat) (q_29 : Nat) (q_31 : Nat) (q_33 : Nat) (q_35 : Nat) (q_37 : Nat) (q_39 : Nat) (q_41 : Nat) (q_43 : Nat) (q_45 : Nat) (q_47 : Nat) (q_49 : Nat) (q_51 : Nat) (q_53 : Nat) (q_55 : Nat) (q_57 : Nat) (q_59 : Nat) (q_61 : Nat) (q_63 : Nat) (q_65 : Nat) (q_68 : Nat) (q_70 : Nat) (q_72 : Nat) (p0 : Int32) (sz : Nat) : Met l yX19_count v_X19_count ({ frames := 1, cells := 0, slots := 0, locals := 21 }) (va_Pc [.ref h0, .int p0] (fun U => U.heap.size = sz ∧ va_P (dC, dI) vwP [(h0, .inr (16, [.ref q_1, .ref q_12, .ref q_17, .ref q_22, .ref q_24, .ref q_26, .ref q_28, .ref q_29, .ref q_31, .ref q_33, .ref q_35, .int 0, .ref q_37, .ref q_39, .ref q_41, .ref q_43, .ref q_45, .ref q_47, .ref q_49, .ref q_51, .ref q_53, .ref q_55, .ref q_57, .int 0, .ref q_59, .ref q_61, .ref q_63, .int (-1), .int 0, .int 0, .int 0, .int 0, .ref q_65, .int 0, .ref q_68, .int 0, .int (-1), .int 0, .int 0, .ref q_70, .ref q_72]))] U.heap ∧ va_K (dC, dI) vwP [] U ∧ va_D (fun _ => True) [(h0, .inr (16, [.ref q_1, .ref q_12, .ref q_17, .ref q_22, .ref q_24, .ref q_26, .ref q_28, .ref q_29, .ref q_31, .ref q_33, .ref q_35, .int 0, .ref q_37, .ref q_39, .ref q_41, .ref q_43, .ref q_45, .ref q_47, .ref q_49, .ref q_51, .ref q_53, .ref q_55, .ref q_57, .int 0, .ref q_59, .ref q_61, .ref q_63, .int (-1), .int 0, .int 0, .int 0, .int 0, .ref q_65, .int 0, .ref q_68, .int 0, .int (-1), .int 0, .int 0, .ref q_70, .ref q_72]))])) (va_Qi (fun (r : Int32) (_ : Unit) => kf_count p0 = 0 → r = vf_count p0) (fun (_ : Unit) (t : State) => ∃ (i_33 : Int32) (i_35 : Int32) (i_36 : Int32) (i_37 : Int32) (q_940 : Nat), (i_33 = kf_count p0) ∧ va_P (dC, dI) vwP [(h0, .inr (16, [.ref q_1, .ref q_12, .ref q_17, .ref q_22, .ref q_24, .ref q_26, .ref q_28, .ref q_29, .ref q_31, .ref q_33, .ref q_35, .int 0, .ref q_37, .ref q_39, .ref q_41, .ref q_43, .ref q_45, .ref q_47, .ref q_49, .ref q_51, .ref q_53, .ref q_55, .ref q_57, .int 0, .ref q_59, .ref q_61, .ref q_63, .int (-1), .int 0, .int 0, .int 0, .int 0, .ref q_65, .int i_33, .ref q_68, .int i_35, .int i_36, .int i_37, .int 0, .ref q_70, .ref q_940]))] t.heap ∧ va_K (dC, dI) vwP [] t ∧ va_D (va_A [(h0, .inr (16, [.ref q_1, .ref q_12, .ref q_17, .ref q_22, .ref q_24, .ref q_26, .ref q_28, .ref q_29, .ref q_31, .ref q_33, .ref q_35, .int 0, .ref q_37, .ref q_39, .ref q_41, .ref q_43, .ref q_45, .ref q_47, .ref q_49, .ref q_51, .ref q_53, .ref q_55, .ref q_57, .int 0, .ref q_59, .ref q_61, .ref q_63, .int (-1), .int 0, .int 0, .int 0, .int 0, .ref q_65, .int 0, .ref q_68, .int 0, .int (-1), .int 0, .int 0, .ref q_70, .ref q_72]))] sz) [(h0, .inr (16, [.ref q_1, .ref q_12, .ref q_17, .ref q_22, .ref q_24, .ref q_26, .ref q_28, .ref q_29, .ref q_31, .ref q_33, .ref q_35, .int 0, .ref q_37, .ref q_39, .ref q_41, .ref q_43, .ref q_45, .ref q_47, .ref q_49, .ref q_51, .ref q_53, .ref q_55, .ref q_57, .int 0, .ref q_59, .ref q_61, .ref q_63, .int (-1), .int 0, .int 0, .int 0, .int 0, .ref q_65, .int i_33, .ref q_68, .int i_35, .int i_36, .int i_37, .int 0, .ref q_70, .ref q_940]))]) (va_A [(h0, .inr (16, [.ref q_1, .ref q_12, .ref q_17, .ref q_22, .ref q_24, .ref q_26, .ref q_28, .ref q_29, .ref q_31, .ref q_33, .ref q_35, .int 0, .ref q_37, .ref q_39, .ref q_41, .ref q_43, .ref q_45, .ref q_47, .ref q_49, .ref q_51, .ref q_53, .ref q_55, .ref q_57, .int 0, .ref q_59, .ref q_61, .ref q_63, .int (-1), .int 0, .int 0, .int 0, .int 0, .ref q_65, .int 0, .ref q_68, .int 0, .int (-1), .int 0, .int 0, .ref q_70, .ref q_72]))] sz)) 0 0 (va_A [(h0, .inr (16, [.ref q_1, .ref q_12, .ref q_17, .ref q_22, .ref q_24, .ref q_26, .ref q_28, .ref q_29, .ref q_31, .ref q_33, .ref q_35, .int 0, .ref q_37, .ref q_39, .ref q_41, .ref q_43, .ref q_45, .ref q_47, .ref q_49, .ref q_51, .ref q_53, .ref q_55, .ref q_57, .int 0, .ref q_59, .ref q_61, .ref q_63, .int (-1), .int 0, .int 0, .int 0, .int 0, .ref q_65, .int 0, .ref q_68, .int 0, .int (-1), .int 0, .int 0, .ref q_70, .ref q_72]))] sz) := by
  refine Met.ofW (cc := cX19_count) (maxL := 3) (ret := (some .int)) (by decide) rfl ?_
  intro p e s m args below meth c s₁ B hml hv
  obtain ⟨rfl, hsz, hP, hK, hD0⟩ := hv
  have hx := B.exec
  have hb := B.bytes
  have hr := B.returns
  have hts := atoms_spec (ws := v_X19_count) B.pre
  have hown : s.vm.findClass RX19 = some m.cls := findClass_of_methodNamed B.named
  have hlocks := B.notSynchronized
  have ow : ∀ {k : Nat} {w : Cond}, o_X19_count[k]? = some w → w.before ([.ref h0, .int p0] : List Value).toArray s = true := fun h => hts _ (mow_X19_count _ (List.mem_of_getElem? h))
  subst hsz
  have hD := hD0.self (sz := s.heap.size)
  generalize hAe : va_A [(h0, .inr (16, [.ref q_1, .ref q_12, .ref q_17, .ref q_22, .ref q_24, .ref q_26, .ref q_28, .ref q_29, .ref q_31, .ref q_33, .ref q_35, .int 0, .ref q_37, .ref q_39, .ref q_41, .ref q_43, .ref q_45, .ref q_47, .ref q_49, .ref q_51, .ref q_53, .ref q_55, .ref q_57, .int 0, .ref q_59, .ref q_61, .ref q_63, .int (-1), .int 0, .int 0, .int 0, .int 0, .ref q_65, .int 0, .ref q_68, .int 0, .int (-1), .int 0, .int 0, .ref q_70, .ref q_72]))] s.heap.size = A at hD ⊢
  have hA : ∀ q : Nat, s.heap.size ≤ q → A q := fun q h => by rw [← hAe]; exact Or.inr h
  have hS : va_S A s.heap s.heap [] := va_S.rf
  have hP : va_P (dC, dI) vwP [(h0, .inr (16, [.ref q_1, .ref q_12, .ref q_17, .ref q_22, .ref q_24, .ref q_26, .ref q_28, .ref q_29, .ref q_31, .ref q_33, .ref q_35, .int 0, .ref q_37, .ref q_39, .ref q_41, .ref q_43, .ref q_45, .ref q_47, .ref q_49, .ref q_51, .ref q_53, .ref q_55, .ref q_57, .int 0, .ref q_59, .ref q_61, .ref q_63, .int (-1), .int 0, .int 0, .int 0, .int 0, .ref q_65, .int 0, .ref q_68, .int 0, .int (-1), .int 0, .int 0, .ref q_70, .ref q_72]))] s.heap := hP
  have hl := lv_entry ([.ref h0, .int p0]) (n := 3) (Nat.le_of_ble_eq_true rfl)
  rw [lg_entry_eq]
  generalize (lg_sl ([.ref h0, .int p0]) ++ List.replicate (3 - (lg_sl ([.ref h0, .int p0])).length) Slot.unset).toArray = ls at hl ⊢
  have hl : lv_has ls 3 [(0, .ref h0), (1, .int p0)] := hl
  obtain ⟨H, hH⟩ : ∃ H, H = s.heap := ⟨_, rfl⟩
  rw [← hH] at hP
  have hS : va_S A s.heap H [] := by rw [hH]; exact hS
  rw [← hH]
  refine lv_aload_n hx hb dX19_count_0 rfl (lv_at hl 0 rfl) ?_
  refine lv_iconst (v := 0) hx hb dX19_count_1 (by decide) ?_
  refine va_put (D := (dC, dI)) (ci := 16) (v := .int 0) (ty := .int) (C := RX19) (T := TX19) (N := 41) hx hb hts mem_X19_count_0 tyX19 tyX19_ok nmX19 hown hK hP hD hS 0 rfl rfl 33 (by decide) (ow (k := 0) rfl) (fun _ h9 => h9) rfl (by decide +kernel) rfl rfl (Nat.le_of_ble_eq_true rfl) dX19_count_2 (fun H locs hP hD hS => ?_)
  have hP : va_P (dC, dI) vwP [(h0, .inr (16, [.ref q_1, .ref q_12, .ref q_17, .ref q_22, .ref q_24, .ref q_26, .ref q_28, .ref q_29, .ref q_31, .ref q_33, .ref q_35, .int 0, .ref q_37, .ref q_39, .ref q_41, .ref q_43, .ref q_45, .ref q_47, .ref q_49, .ref q_51, .ref q_53, .ref q_55, .ref q_57, .int 0, .ref q_59, .ref q_61, .ref q_63, .int (-1), .int 0, .int 0, .int 0, .int 0, .ref q_65, .int 0, .ref q_68, .int 0, .int (-1), .int 0, .int 0, .ref q_70, .ref q_72]))] H := hP
  have hD : va_D A [(h0, .inr (16, [.ref q_1, .ref q_12, .ref q_17, .ref q_22, .ref q_24, .ref q_26, .ref q_28, .ref q_29, .ref q_31, .ref q_33, .ref q_35, .int 0, .ref q_37, .ref q_39, .ref q_41, .ref q_43, .ref q_45, .ref q_47, .ref q_49, .ref q_51, .ref q_53, .ref q_55, .ref q_57, .int 0, .ref q_59, .ref q_61, .ref q_63, .int (-1), .int 0, .int 0, .int 0, .int 0, .ref q_65, .int 0, .ref q_68, .int 0, .int (-1), .int 0, .int 0, .ref q_70, .ref q_72]))] := hD
  refine lv_aload_n hx hb dX19_count_5 rfl (lv_at hl 0 rfl) ?_
  refine va_get (D := (dC, dI)) (ci := 16) (v := .int (-1)) (C := RX19) (T := TX19) (N := 41) hx hb hts mem_X19_count_0 hown hK hP 0 rfl rfl 36 (by decide) (ow (k := 1) rfl) (fun _ h9 => h9) rfl dX19_count_6 ?_
  refine lv_if_lt (tgt := 16) hx hb dX19_count_9 (by decide) (fun _ => ?_) (fun h9 => absurd h9 (by decide))
  refine lv_iconst (v := 0) hx hb dX19_count_16 (by decide) ?_
  refine lv_istore_n (lv' := [(2, .int 0), (0, .ref h0), (1, .int p0)]) hx hb dX19_count_17 rfl hl (by decide) rfl (fun ls hl => ?_)
  refine lv_iload_n hx hb dX19_count_18 rfl (lv_at hl 2 rfl) ?_
  by_cases s19_0 : p0 = 0
  · refine lv_tableIn (off := 45) (tgt := 64) hx hb dX19_count_19 (by rw [s19_0]; decide) (by rw [s19_0]; decide) (by rw [s19_0]; decide) (by decide) ?_
    refine lv_aload_n hx hb dX19_count_64 rfl (lv_at hl 1 rfl) ?_
    refine va_get (D := (dC, dI)) (ci := 16) (v := .int (-1)) (C := RX19) (T := TX19) (N := 41) hx hb hts mem_X19_count_0 hown hK hP 0 rfl rfl 36 (by decide) (ow (k := 1) rfl) (fun _ h9 => h9) rfl dX19_count_65 ?_
    have zs19_0 : p0.toInt = 0 := z_eq s19_0
    refine W.widen (k := 0) (n := 0) (Nat.le_of_ble_eq_true rfl) (Nat.le_of_ble_eq_true rfl) ?_
    exact W.iret (v := (-1)) hx hb hr (fun t ht hW => ⟨⟨(-1), (), rfl, (fun _ => (show (-1) = vf_count p0 by unfold vf_count; first | rfl | (split <;> first | rfl | (exfalso; omega)))), 0, 0, (-1), 0, q_72, (show kf_count p0 = 0 by unfold kf_count; first | rfl | (split <;> first | rfl | (exfalso; omega))).symm, by rw [ht]; exact hP, va_K.moved hW.alike hK, hD⟩, hS.F ht⟩) hS.2.2 dX19_count_68
  by_cases s19_1 : p0 = 1
  · refine lv_tableIn (off := 50) (tgt := 69) hx hb dX19_count_19 (by rw [s19_1]; decide) (by rw [s19_1]; decide) (by rw [s19_1]; decide) (by decide) ?_
    refine lv_iload_n hx hb dX19_count_69 rfl (lv_at hl 0 rfl) ?_
    refine lv_if_eq (tgt := 83) hx hb dX19_count_70 (by decide) (fun _ => ?_) (fun h9 => absurd h9 (by decide))
    refine lv_iconst (v := 0) hx hb dX19_count_83 (by decide) ?_
    have zs19_0 : ¬ p0.toInt = 0 := z_ne s19_0
    have zs19_1 : p0.toInt = 1 := z_eq s19_1
    refine W.widen (k := 0) (n := 0) (Nat.le_of_ble_eq_true rfl) (Nat.le_of_ble_eq_true rfl) ?_
    exact W.iret (v := 0) hx hb hr (fun t ht hW => ⟨⟨0, (), rfl, (fun _ => (show 0 = vf_count p0 by unfold vf_count; first | rfl | (split <;> first | rfl | (exfalso; omega)))), 0, 0, (-1), 0, q_72, (show kf_count p0 = 0 by unfold kf_count; first | rfl | (split <;> first | rfl | (exfalso; omega))).symm, by rw [ht]; exact hP, va_K.moved hW.alike hK, hD⟩, hS.F ht⟩) hS.2.2 dX19_count_84
  by_cases s19_2 : p0 = 2
  · refine lv_tableIn (off := 66) (tgt := 85) hx hb dX19_count_19 (by rw [s19_2]; decide) (by rw [s19_2]; decide) (by rw [s19_2]; decide) (by decide) ?_
    refine lv_iload_n hx hb dX19_count_85 rfl (lv_at hl 0 rfl) ?_
    refine lv_if_eq (tgt := 99) hx hb dX19_count_86 (by decide) (fun _ => ?_) (fun h9 => absurd h9 (by decide))
    refine lv_iconst (v := 0) hx hb dX19_count_99 (by decide) ?_
    have zs19_0 : ¬ p0.toInt = 0 := z_ne s19_0
    have zs19_1 : ¬ p0.toInt = 1 := z_ne s19_1
    have zs19_2 : p0.toInt = 2 := z_eq s19_2
    refine W.widen (k := 0) (n := 0) (Nat.le_of_ble_eq_true rfl) (Nat.le_of_ble_eq_true rfl) ?_
    exact W.iret (v := 0) hx hb hr (fun t ht hW => ⟨⟨0, (), rfl, (fun _ => (show 0 = vf_count p0 by unfold vf_count; first | rfl | (split <;> first | rfl | (exfalso; omega)))), 0, 0, (-1), 0, q_72, (show kf_count p0 = 0 by unfold kf_count; first | rfl | (split <;> first | rfl | (exfalso; omega))).symm, by rw [ht]; exact hP, va_K.moved hW.alike hK, hD⟩, hS.F ht⟩) hS.2.2 dX19_count_100
  by_cases s19_3 : p0 = 3
  · refine lv_tableIn (off := 82) (tgt := 101) hx hb dX19_count_19 (by rw [s19_3]; decide) (by rw [s19_3]; decide) (by rw [s19_3]; decide) (by decide) ?_
    refine lv_iload_n hx hb dX19_count_101 rfl (lv_at hl 0 rfl) ?_
    refine lv_if_eq (tgt := 115) hx hb dX19_count_102 (by decide) (fun _ => ?_) (fun h9 => absurd h9 (by decide))
    refine lv_iconst (v := 0) hx hb dX19_count_115 (by decide) ?_
    have zs19_0 : ¬ p0.toInt = 0 := z_ne s19_0
    have zs19_1 : ¬ p0.toInt = 1 := z_ne s19_1
    have zs19_2 : ¬ p0.toInt = 2 := z_ne s19_2
    have zs19_3 : p0.toInt = 3 := z_eq s19_3
    refine W.widen (k := 0) (n := 0) (Nat.le_of_ble_eq_true rfl) (Nat.le_of_ble_eq_true rfl) ?_
    exact W.iret (v := 0) hx hb hr (fun t ht hW => ⟨⟨0, (), rfl, (fun _ => (show 0 = vf_count p0 by unfold vf_count; first | rfl | (split <;> first | rfl | (exfalso; omega)))), 0, 0, (-1), 0, q_72, (show kf_count p0 = 0 by unfold kf_count; first | rfl | (split <;> first | rfl | (exfalso; omega))).symm, by rw [ht]; exact hP, va_K.moved hW.alike hK, hD⟩, hS.F ht⟩) hS.2.2 dX19_count_116
  by_cases s19_4 : p0 = 4
  · refine lv_tableIn (off := 98) (tgt := 117) hx hb dX19_count_19 (by rw [s19_4]; decide) (by rw [s19_4]; decide) (by rw [s19_4]; decide) (by decide) ?_
    refine lv_iload_n hx hb dX19_count_117 rfl (lv_at hl 0 rfl) ?_
    refine lv_if_ne (tgt := 123) hx hb dX19_count_118 (by decide) (fun h9 => absurd h9 (by decide)) (fun _ => ?_)
    refine lv_iconst (v := 0) hx hb dX19_count_121 (by decide) ?_
    have zs19_0 : ¬ p0.toInt = 0 := z_ne s19_0
    have zs19_1 : ¬ p0.toInt = 1 := z_ne s19_1
    have zs19_2 : ¬ p0.toInt = 2 := z_ne s19_2
    have zs19_3 : ¬ p0.toInt = 3 := z_ne s19_3
    have zs19_4 : p0.toInt = 4 := z_eq s19_4
    refine W.widen (k := 0) (n := 0) (Nat.le_of_ble_eq_true rfl) (Nat.le_of_ble_eq_true rfl) ?_
    exact W.iret (v := 0) hx hb hr (fun t ht hW => ⟨⟨0, (), rfl, (fun _ => (show 0 = vf_count p0 by unfold vf_count; first | rfl | (split <;> first | rfl | (exfalso; omega)))), 0, 0, (-1), 0, q_72, (show kf_count p0 = 0 by unfold kf_count; first | rfl | (split <;> first | rfl | (exfalso; omega))).symm, by rw [ht]; exact hP, va_K.moved hW.alike hK, hD⟩, hS.F ht⟩) hS.2.2 dX19_count_122
  by_cases s19_5 : p0 = 5
  · refine lv_tableIn (off := 134) (tgt := 153) hx hb dX19_count_19 (by rw [s19_5]; decide) (by rw [s19_5]; decide) (by rw [s19_5]; decide) (by decide) ?_
    refine lv_aload_n hx hb dX19_count_153 rfl (lv_at hl 1 rfl) ?_
    refine va_get (D := (dC, dI)) (ci := 16) (v := .int 0) (C := RX19) (T := TX19) (N := 41) hx hb hts mem_X19_count_0 hown hK hP 0 rfl rfl 37 (by decide) (ow (k := 2) rfl) (fun _ h9 => h9) rfl dX19_count_154 ?_
    have zs19_0 : ¬ p0.toInt = 0 := z_ne s19_0
    have zs19_1 : ¬ p0.toInt = 1 := z_ne s19_1
    have zs19_2 : ¬ p0.toInt = 2 := z_ne s19_2
    have zs19_3 : ¬ p0.toInt = 3 := z_ne s19_3
    have zs19_4 : ¬ p0.toInt = 4 := z_ne s19_4
    have zs19_5 : p0.toInt = 5 := z_eq s19_5
    refine W.widen (k := 0) (n := 0) (Nat.le_of_ble_eq_true rfl) (Nat.le_of_ble_eq_true rfl) ?_
    exact W.iret (v := 0) hx hb hr (fun t ht hW => ⟨⟨0, (), rfl, (fun _ => (show 0 = vf_count p0 by unfold vf_count; first | rfl | (split <;> first | rfl | (exfalso; omega)))), 0, 0, (-1), 0, q_72, (show kf_count p0 = 0 by unfold kf_count; first | rfl | (split <;> first | rfl | (exfalso; omega))).symm, by rw [ht]; exact hP, va_K.moved hW.alike hK, hD⟩, hS.F ht⟩) hS.2.2 dX19_count_157
  by_cases s19_6 : p0 = 6
  · refine lv_tableIn (off := 139) (tgt := 158) hx hb dX19_count_19 (by rw [s19_6]; decide) (by rw [s19_6]; decide) (by rw [s19_6]; decide) (by decide) ?_
    refine lv_aload_n hx hb dX19_count_158 rfl (lv_at hl 1 rfl) ?_
    refine va_get (D := (dC, dI)) (ci := 16) (v := .int 0) (C := RX19) (T := TX19) (N := 41) hx hb hts mem_X19_count_0 hown hK hP 0 rfl rfl 38 (by decide) (ow (k := 3) rfl) (fun _ h9 => h9) rfl dX19_count_159 ?_
    have zs19_0 : ¬ p0.toInt = 0 := z_ne s19_0
    have zs19_1 : ¬ p0.toInt = 1 := z_ne s19_1
    have zs19_2 : ¬ p0.toInt = 2 := z_ne s19_2
    have zs19_3 : ¬ p0.toInt = 3 := z_ne s19_3
    have zs19_4 : ¬ p0.toInt = 4 := z_ne s19_4
    have zs19_5 : ¬ p0.toInt = 5 := z_ne s19_5
    have zs19_6 : p0.toInt = 6 := z_eq s19_6
    refine W.widen (k := 0) (n := 0) (Nat.le_of_ble_eq_true rfl) (Nat.le_of_ble_eq_true rfl) ?_
    exact W.iret (v := 0) hx hb hr (fun t ht hW => ⟨⟨0, (), rfl, (fun _ => (show 0 = vf_count p0 by unfold vf_count; first | rfl | (split <;> first | rfl | (exfalso; omega)))), 0, 0, (-1), 0, q_72, (show kf_count p0 = 0 by unfold kf_count; first | rfl | (split <;> first | rfl | (exfalso; omega))).symm, by rw [ht]; exact hP, va_K.moved hW.alike hK, hD⟩, hS.F ht⟩) hS.2.2 dX19_count_162
  by_cases s19_7 : p0 = 7
  · refine lv_tableIn (off := 144) (tgt := 163) hx hb dX19_count_19 (by rw [s19_7]; decide) (by rw [s19_7]; decide) (by rw [s19_7]; decide) (by decide) ?_
    refine lv_aload_n hx hb dX19_count_163 rfl (lv_at hl 1 rfl) ?_
    refine va_get (D := (dC, dI)) (ci := 16) (v := .int 0) (C := RX19) (T := TX19) (N := 41) hx hb hts mem_X19_count_0 hown hK hP 0 rfl rfl 35 (by decide) (ow (k := 4) rfl) (fun _ h9 => h9) rfl dX19_count_164 ?_
    have zs19_0 : ¬ p0.toInt = 0 := z_ne s19_0
    have zs19_1 : ¬ p0.toInt = 1 := z_ne s19_1
    have zs19_2 : ¬ p0.toInt = 2 := z_ne s19_2
    have zs19_3 : ¬ p0.toInt = 3 := z_ne s19_3
    have zs19_4 : ¬ p0.toInt = 4 := z_ne s19_4
    have zs19_5 : ¬ p0.toInt = 5 := z_ne s19_5
    have zs19_6 : ¬ p0.toInt = 6 := z_ne s19_6
    have zs19_7 : p0.toInt = 7 := z_eq s19_7
    refine W.widen (k := 0) (n := 0) (Nat.le_of_ble_eq_true rfl) (Nat.le_of_ble_eq_true rfl) ?_
    exact W.iret (v := 0) hx hb hr (fun t ht hW => ⟨⟨0, (), rfl, (fun _ => (show 0 = vf_count p0 by unfold vf_count; first | rfl | (split <;> first | rfl | (exfalso; omega)))), 0, 0, (-1), 0, q_72, (show kf_count p0 = 0 by unfold kf_count; first | rfl | (split <;> first | rfl | (exfalso; omega))).symm, by rw [ht]; exact hP, va_K.moved hW.alike hK, hD⟩, hS.F ht⟩) hS.2.2 dX19_count_167
  have zs19_0 : ¬ p0.toInt = 0 := z_ne s19_0
  have zs19_1 : ¬ p0.toInt = 1 := z_ne s19_1
  have zs19_2 : ¬ p0.toInt = 2 := z_ne s19_2
  have zs19_3 : ¬ p0.toInt = 3 := z_ne s19_3
  have zs19_4 : ¬ p0.toInt = 4 := z_ne s19_4
  have zs19_5 : ¬ p0.toInt = 5 := z_ne s19_5
  have zs19_6 : ¬ p0.toInt = 6 := z_ne s19_6
  have zs19_7 : ¬ p0.toInt = 7 := z_ne s19_7
  refine lv_tableOut (tgt := 168) hx hb dX19_count_19 (show p0.toInt < 0 ∨ 7 < p0.toInt by omega) (by decide) ?_
  refine lv_aload_n hx hb dX19_count_168 rfl (lv_at hl 1 rfl) ?_
  refine lv_iconst (v := 1) hx hb dX19_count_169 (by decide) ?_
  have hPc := hP.sub (ws' := [(h0, .inr (16, [.ref q_1, .ref q_12, .ref q_17, .ref q_22, .ref q_24, .ref q_26, .ref q_28, .ref q_29, .ref q_31, .ref q_33, .ref q_35, .int 0, .ref q_37, .ref q_39, .ref q_41, .ref q_43, .ref q_45, .ref q_47, .ref q_49, .ref q_51, .ref q_53, .ref q_55, .ref q_57, .int 0, .ref q_59, .ref q_61, .ref q_63, .int (-1), .int 0, .int 0, .int 0, .int 0, .ref q_65, .int 0, .ref q_68, .int 0, .int (-1), .int 0, .int 0, .ref q_70, .ref q_72]))]) [0] rfl
  have hDc := hD.sub (ws' := [(h0, .inr (16, [.ref q_1, .ref q_12, .ref q_17, .ref q_22, .ref q_24, .ref q_26, .ref q_28, .ref q_29, .ref q_31, .ref q_33, .ref q_35, .int 0, .ref q_37, .ref q_39, .ref q_41, .ref q_43, .ref q_45, .ref q_47, .ref q_49, .ref q_51, .ref q_53, .ref q_55, .ref q_57, .int 0, .ref q_59, .ref q_61, .ref q_63, .int (-1), .int 0, .int 0, .int 0, .int 0, .ref q_65, .int 0, .ref q_68, .int 0, .int (-1), .int 0, .int 0, .ref q_70, .ref q_72]))]) [0] (by decide) rfl
  have hKc := hK.sub (tys' := []) [] rfl
  have hFc := va_free (wc := [(h0, .inr (16, [.ref q_1, .ref q_12, .ref q_17, .ref q_22, .ref q_24, .ref q_26, .ref q_28, .ref q_29, .ref q_31, .ref q_33, .ref q_35, .int 0, .ref q_37, .ref q_39, .ref q_41, .ref q_43, .ref q_45, .ref q_47, .ref q_49, .ref q_51, .ref q_53, .ref q_55, .ref q_57, .int 0, .ref q_59, .ref q_61, .ref q_63, .int (-1), .int 0, .int 0, .int 0, .int 0, .ref q_65, .int 0, .ref q_68, .int 0, .int (-1), .int 0, .int 0, .ref q_70, .ref q_72]))]) hD hS hA [0] rfl
  refine va_calli (va_runV (As := [.int 1]) (rest := []) ⟨hx, hb, hml, hown, hts⟩ (c_X19_no l dC dI h0 q_1 q_12 q_17 q_22 q_24 q_26 q_28 q_29 q_31 q_33 q_35 q_37 q_39 q_41 q_43 q_45 q_47 q_49 q_51 q_53 q_55 q_57 q_59 q_61 q_63 q_65 q_68 q_70 q_72 1 H.size) (cwV 1 hts g_X19_count_X19_no rfl rfl rfl (by decide +kernel) ⟨(Nat.le_of_ble_eq_true rfl), (Nat.le_of_ble_eq_true rfl)⟩) ⟨fun a U g mk q => by obtain ⟨q0, q1, qP, qK, qD⟩ := q; exact ⟨q0, q1, qP, va_K.moved (u := U) (U := U.calling g mk a) (Vm.Alike.refl U.vm) qK, qD⟩, va_recv hKc hPc (ci := 16) (q0 := 0) rfl rfl, fun U hU hW => ⟨rfl, by rw [hU], by rw [hU]; exact hPc, va_K.moved hW.alike hKc, hDc.weaken (fun _ _ _ _ => trivial)⟩⟩ rfl rfl hl.1 rfl (lv_room (Nat.le_of_ble_eq_true rfl)) dX19_count_170 ⟨(Nat.le_of_ble_eq_true rfl), (Nat.le_of_ble_eq_true rfl)⟩) hS (fun q _ h => hFc q h) hFc (fun r_2001 u t H1 locs ht hvm hw hB hz1 hk1 hS => ?_)
  obtain ⟨hP1, hK1, hD1⟩ := hB
  rw [ht] at hP1
  have hK1 := va_K.moved hvm.symm hK1
  obtain ⟨hP, hD⟩ := va_join (wr := []) (w1 := [(h0, .inr (16, [.ref q_1, .ref q_12, .ref q_17, .ref q_22, .ref q_24, .ref q_26, .ref q_28, .ref q_29, .ref q_31, .ref q_33, .ref q_35, .int 0, .ref q_37, .ref q_39, .ref q_41, .ref q_43, .ref q_45, .ref q_47, .ref q_49, .ref q_51, .ref q_53, .ref q_55, .ref q_57, .int 0, .ref q_59, .ref q_61, .ref q_63, .int (-1), .int 0, .int 0, .int 0, .int 0, .ref q_65, .int 1, .ref q_68, .int 0, .int (-1), .int 0, .int 0, .ref q_70, .ref q_72]))]) hP hD [0] [] rfl rfl (by decide) (by decide) hk1 hFc hP1 hD1
  have hK := (hK.sub (tys' := []) [] rfl).app hK1
  generalize H1 = H at hP hS ⊢
  have hP : va_P (dC, dI) vwP [(h0, .inr (16, [.ref q_1, .ref q_12, .ref q_17, .ref q_22, .ref q_24, .ref q_26, .ref q_28, .ref q_29, .ref q_31, .ref q_33, .ref q_35, .int 0, .ref q_37, .ref q_39, .ref q_41, .ref q_43, .ref q_45, .ref q_47, .ref q_49, .ref q_51, .ref q_53, .ref q_55, .ref q_57, .int 0, .ref q_59, .ref q_61, .ref q_63, .int (-1), .int 0, .int 0, .int 0, .int 0, .ref q_65, .int 1, .ref q_68, .int 0, .int (-1), .int 0, .int 0, .ref q_70, .ref q_72]))] H := hP
  have hD : va_D A [(h0, .inr (16, [.ref q_1, .ref q_12, .ref q_17, .ref q_22, .ref q_24, .ref q_26, .ref q_28, .ref q_29, .ref q_31, .ref q_33, .ref q_35, .int 0, .ref q_37, .ref q_39, .ref q_41, .ref q_43, .ref q_45, .ref q_47, .ref q_49, .ref q_51, .ref q_53, .ref q_55, .ref q_57, .int 0, .ref q_59, .ref q_61, .ref q_63, .int (-1), .int 0, .int 0, .int 0, .int 0, .ref q_65, .int 1, .ref q_68, .int 0, .int (-1), .int 0, .int 0, .ref q_70, .ref q_72]))] := hD
  have hK : va_K (dC, dI) vwP [] s := hK
  refine W.widen (k := 0) (n := 0) (Nat.le_of_ble_eq_true rfl) (Nat.le_of_ble_eq_true rfl) ?_
  obtain rfl : r_2001 = 0 := hw
  have zs19_0 : ¬ p0.toInt = 0 := z_ne s19_0
  have zs19_1 : ¬ p0.toInt = 1 := z_ne s19_1
  have zs19_2 : ¬ p0.toInt = 2 := z_ne s19_2
  have zs19_3 : ¬ p0.toInt = 3 := z_ne s19_3
  have zs19_4 : ¬ p0.toInt = 4 := z_ne s19_4
  have zs19_5 : ¬ p0.toInt = 5 := z_ne s19_5
  have zs19_6 : ¬ p0.toInt = 6 := z_ne s19_6
  have zs19_7 : ¬ p0.toInt = 7 := z_ne s19_7
  refine W.widen (k := 0) (n := 0) (Nat.le_of_ble_eq_true rfl) (Nat.le_of_ble_eq_true rfl) ?_
  exact W.iret (v := 0) hx hb hr (fun t ht hW => ⟨⟨0, (), rfl, (fun h9 => absurd ((show kf_count p0 = 1 by unfold kf_count; first | rfl | (split <;> first | rfl | (exfalso; omega))).symm.trans h9) (by decide)), 1, 0, (-1), 0, q_72, (show kf_count p0 = 1 by unfold kf_count; first | rfl | (split <;> first | rfl | (exfalso; omega))).symm, by rw [ht]; exact hP, va_K.moved hW.alike hK, hD⟩, hS.F ht⟩) hS.2.2 dX19_count_173
theorem dX19_block_0 : decode cX19_block 0 = .ok (.aload_n 0, 1) := by decide +kernel
theorem dX19_block_1 : decode cX19_block 1 = .ok (.iconst 0, 1) := by decide +kernel
theorem dX19_block_2 : decode cX19_block 2 = .ok (.putfield 560, 3) := by decide +kernel
theorem dX19_block_5 : decode cX19_block 5 = .ok (.iload_n 2, 1) := by decide +kernel
theorem dX19_block_6 : decode cX19_block 6 = .ok (.ifCond .lt 8, 3) := by decide +kernel
theorem dX19_block_14 : decode cX19_block 14 = .ok (.aload_n 0, 1) := by decide +kernel
theorem dX19_block_15 : decode cX19_block 15 = .ok (.iconst 1, 1) := by decide +kernel
theorem dX19_block_16 : decode cX19_block 16 = .ok (.invokevirtual 565, 3) := by decide +kernel
theorem dX19_block_19 : decode cX19_block 19 = .ok (.ireturn, 1) := by decide +kernel
theorem dX19_block_9 : decode cX19_block 9 = .ok (.iload_n 2, 1) := by decide +kernel
theorem dX19_block_10 : decode cX19_block 10 = .ok (.iconst 4, 1) := by decide +kernel
theorem dX19_block_11 : decode cX19_block 11 = .ok (.if_icmp .le 9, 3) := by decide +kernel
theorem dX19_block_20 : decode cX19_block 20 = .ok (.aload_n 0, 1) := by decide +kernel
theorem dX19_block_21 : decode cX19_block 21 = .ok (.getfield 555, 3) := by decide +kernel
theorem dX19_block_24 : decode cX19_block 24 = .ok (.ifCond .lt 18, 3) := by decide +kernel
theorem dX19_block_42 : decode cX19_block 42 = .ok (.aload_n 0, 1) := by decide +kernel
theorem dX19_block_43 : decode cX19_block 43 = .ok (.iconst 2, 1) := by decide +kernel
theorem dX19_block_44 : decode cX19_block 44 = .ok (.invokevirtual 565, 3) := by decide +kernel
theorem dX19_block_47 : decode cX19_block 47 = .ok (.ireturn, 1) := by decide +kernel
def o_X19_block : List Cond := [.fieldLink RX19 560 "SsaForgeModel" "thrown" "I", .methodLink RX19 565 yX19_no, .instanceMethod yX19_no, .selects RX19 yX19_no yX19_no, .initialized RX19, .fieldLink RX19 555 "SsaForgeModel" "form" "I"]
def v_X19_block : List Cond := .code yX19_block cX19_block 5 (some .int) :: (o_X19_block ++ (wsX190 ++ (v_X19_no ++ [])))
theorem mow_X19_block : ∀ w ∈ o_X19_block, w ∈ v_X19_block := fun _ h => List.mem_cons_of_mem _ (List.mem_append_left _ h)
theorem mem_X19_block_0 : ∀ w ∈ wsX190, w ∈ v_X19_block := fun _ h => List.mem_cons_of_mem _ (List.mem_append_right _ (List.mem_append_left _ h))
theorem mem_X19_block_1 : ∀ w ∈ v_X19_no, w ∈ v_X19_block := fun _ h => List.mem_cons_of_mem _ (List.mem_append_right _ (List.mem_append_right _ (List.mem_append_left _ h)))
set_option maxRecDepth 20000 in
theorem gw_X19_block : v_X19_block.all goodWord = true := by decide +kernel
set_option maxRecDepth 20000 in
theorem g_X19_block_X19_no : GoodIn v_X19_block (wsV RX19 565 RX19 yX19_no v_X19_no) := goodIn_app (goodIn_sub (fun w h => mow_X19_block w (by revert w h; decide +kernel)) (by decide +kernel)) (goodIn_sub mem_X19_block_1 gw_X19_no)
set_option maxHeartbeats 4000000 in
set_option maxRecDepth 100000 in
theorem c_X19_block (l : Launch) (dC : Nat → ClassId) (dI : Nat → Nat → Nat) (h0 : Nat) (q_1 : Nat) (q_12 : Nat) (q_17 : Nat) (q_22 : Nat) (q_24 : Nat) (q_26 : Nat) (q_28 : Nat) (q_29 : Nat) (q_31 : Nat) (q_33 : Nat) (q_35 : Nat) (q_37 : Nat) (q_39 : Nat) (q_41 : Nat) (q_43 : Nat) (q_45 : Nat) (q_47 : Nat) (q_49 : Nat) (q_51 : Nat) (q_53 : Nat) (q_55 : Nat) (q_57 : Nat) (q_59 : Nat) (q_61 : Nat) (q_63 : Nat) (q_65 : Nat) (q_68 : Nat) (q_70 : Nat) (q_72 : Nat) (p0 : Int32) (p1 : Int32) (sz : Nat) : Met l yX19_block v_X19_block ({ frames := 1, cells := 0, slots := 0, locals := 21 }) (va_Pc [.ref h0, .int p0, .int p1] (fun U => U.heap.size = sz ∧ va_P (dC, dI) vwP [(h0, .inr (16, [.ref q_1, .ref q_12, .ref q_17, .ref q_22, .ref q_24, .ref q_26, .ref q_28, .ref q_29, .ref q_31, .ref q_33, .ref q_35, .int 0, .ref q_37, .ref q_39, .ref q_41, .ref q_43, .ref q_45, .ref q_47, .ref q_49, .ref q_51, .ref q_53, .ref q_55, .ref q_57, .int 0, .ref q_59, .ref q_61, .ref q_63, .int (-1), .int 0, .int 0, .int 0, .int 0, .ref q_65, .int 0, .ref q_68, .int 0, .int (-1), .int 0, .int 0, .ref q_70, .ref q_72]))] U.heap ∧ va_K (dC, dI) vwP [] U ∧ va_D (fun _ => True) [(h0, .inr (16, [.ref q_1, .ref q_12, .ref q_17, .ref q_22, .ref q_24, .ref q_26, .ref q_28, .ref q_29, .ref q_31, .ref q_33, .ref q_35, .int 0, .ref q_37, .ref q_39, .ref q_41, .ref q_43, .ref q_45, .ref q_47, .ref q_49, .ref q_51, .ref q_53, .ref q_55, .ref q_57, .int 0, .ref q_59, .ref q_61, .ref q_63, .int (-1), .int 0, .int 0, .int 0, .int 0, .ref q_65, .int 0, .ref q_68, .int 0, .int (-1), .int 0, .int 0, .ref q_70, .ref q_72]))])) (va_Qi (fun (r : Int32) (_ : Unit) => kf_block p1 = 0 → r = vf_block) (fun (_ : Unit) (t : State) => ∃ (i_33 : Int32) (i_35 : Int32) (i_36 : Int32) (i_37 : Int32) (q_940 : Nat), (i_33 = kf_block p1) ∧ va_P (dC, dI) vwP [(h0, .inr (16, [.ref q_1, .ref q_12, .ref q_17, .ref q_22, .ref q_24, .ref q_26, .ref q_28, .ref q_29, .ref q_31, .ref q_33, .ref q_35, .int 0, .ref q_37, .ref q_39, .ref q_41, .ref q_43, .ref q_45, .ref q_47, .ref q_49, .ref q_51, .ref q_53, .ref q_55, .ref q_57, .int 0, .ref q_59, .ref q_61, .ref q_63, .int (-1), .int 0, .int 0, .int 0, .int 0, .ref q_65, .int i_33, .ref q_68, .int i_35, .int i_36, .int i_37, .int 0, .ref q_70, .ref q_940]))] t.heap ∧ va_K (dC, dI) vwP [] t ∧ va_D (va_A [(h0, .inr (16, [.ref q_1, .ref q_12, .ref q_17, .ref q_22, .ref q_24, .ref q_26, .ref q_28, .ref q_29, .ref q_31, .ref q_33, .ref q_35, .int 0, .ref q_37, .ref q_39, .ref q_41, .ref q_43, .ref q_45, .ref q_47, .ref q_49, .ref q_51, .ref q_53, .ref q_55, .ref q_57, .int 0, .ref q_59, .ref q_61, .ref q_63, .int (-1), .int 0, .int 0, .int 0, .int 0, .ref q_65, .int 0, .ref q_68, .int 0, .int (-1), .int 0, .int 0, .ref q_70, .ref q_72]))] sz) [(h0, .inr (16, [.ref q_1, .ref q_12, .ref q_17, .ref q_22, .ref q_24, .ref q_26, .ref q_28, .ref q_29, .ref q_31, .ref q_33, .ref q_35, .int 0, .ref q_37, .ref q_39, .ref q_41, .ref q_43, .ref q_45, .ref q_47, .ref q_49, .ref q_51, .ref q_53, .ref q_55, .ref q_57, .int 0, .ref q_59, .ref q_61, .ref q_63, .int (-1), .int 0, .int 0, .int 0, .int 0, .ref q_65, .int i_33, .ref q_68, .int i_35, .int i_36, .int i_37, .int 0, .ref q_70, .ref q_940]))]) (va_A [(h0, .inr (16, [.ref q_1, .ref q_12, .ref q_17, .ref q_22, .ref q_24, .ref q_26, .ref q_28, .ref q_29, .ref q_31, .ref q_33, .ref q_35, .int 0, .ref q_37, .ref q_39, .ref q_41, .ref q_43, .ref q_45, .ref q_47, .ref q_49, .ref q_51, .ref q_53, .ref q_55, .ref q_57, .int 0, .ref q_59, .ref q_61, .ref q_63, .int (-1), .int 0, .int 0, .int 0, .int 0, .ref q_65, .int 0, .ref q_68, .int 0, .int (-1), .int 0, .int 0, .ref q_70, .ref q_72]))] sz)) 0 0 (va_A [(h0, .inr (16, [.ref q_1, .ref q_12, .ref q_17, .ref q_22, .ref q_24, .ref q_26, .ref q_28, .ref q_29, .ref q_31, .ref q_33, .ref q_35, .int 0, .ref q_37, .ref q_39, .ref q_41, .ref q_43, .ref q_45, .ref q_47, .ref q_49, .ref q_51, .ref q_53, .ref q_55, .ref q_57, .int 0, .ref q_59, .ref q_61, .ref q_63, .int (-1), .int 0, .int 0, .int 0, .int 0, .ref q_65, .int 0, .ref q_68, .int 0, .int (-1), .int 0, .int 0, .ref q_70, .ref q_72]))] sz) := by
  refine Met.ofW (cc := cX19_block) (maxL := 5) (ret := (some .int)) (by decide) rfl ?_
  intro p e s m args below meth c s₁ B hml hv
  obtain ⟨rfl, hsz, hP, hK, hD0⟩ := hv
  have hx := B.exec
  have hb := B.bytes
  have hr := B.returns
  have hts := atoms_spec (ws := v_X19_block) B.pre
  have hown : s.vm.findClass RX19 = some m.cls := findClass_of_methodNamed B.named
  have hlocks := B.notSynchronized
  have ow : ∀ {k : Nat} {w : Cond}, o_X19_block[k]? = some w → w.before ([.ref h0, .int p0, .int p1] : List Value).toArray s = true := fun h => hts _ (mow_X19_block _ (List.mem_of_getElem? h))
  subst hsz
  have hD := hD0.self (sz := s.heap.size)
  generalize hAe : va_A [(h0, .inr (16, [.ref q_1, .ref q_12, .ref q_17, .ref q_22, .ref q_24, .ref q_26, .ref q_28, .ref q_29, .ref q_31, .ref q_33, .ref q_35, .int 0, .ref q_37, .ref q_39, .ref q_41, .ref q_43, .ref q_45, .ref q_47, .ref q_49, .ref q_51, .ref q_53, .ref q_55, .ref q_57, .int 0, .ref q_59, .ref q_61, .ref q_63, .int (-1), .int 0, .int 0, .int 0, .int 0, .ref q_65, .int 0, .ref q_68, .int 0, .int (-1), .int 0, .int 0, .ref q_70, .ref q_72]))] s.heap.size = A at hD ⊢
  have hA : ∀ q : Nat, s.heap.size ≤ q → A q := fun q h => by rw [← hAe]; exact Or.inr h
  have hS : va_S A s.heap s.heap [] := va_S.rf
  have hP : va_P (dC, dI) vwP [(h0, .inr (16, [.ref q_1, .ref q_12, .ref q_17, .ref q_22, .ref q_24, .ref q_26, .ref q_28, .ref q_29, .ref q_31, .ref q_33, .ref q_35, .int 0, .ref q_37, .ref q_39, .ref q_41, .ref q_43, .ref q_45, .ref q_47, .ref q_49, .ref q_51, .ref q_53, .ref q_55, .ref q_57, .int 0, .ref q_59, .ref q_61, .ref q_63, .int (-1), .int 0, .int 0, .int 0, .int 0, .ref q_65, .int 0, .ref q_68, .int 0, .int (-1), .int 0, .int 0, .ref q_70, .ref q_72]))] s.heap := hP
  have hl := lv_entry ([.ref h0, .int p0, .int p1]) (n := 5) (Nat.le_of_ble_eq_true rfl)
  rw [lg_entry_eq]
  generalize (lg_sl ([.ref h0, .int p0, .int p1]) ++ List.replicate (5 - (lg_sl ([.ref h0, .int p0, .int p1])).length) Slot.unset).toArray = ls at hl ⊢
  have hl : lv_has ls 5 [(0, .ref h0), (1, .int p0), (2, .int p1)] := hl
  obtain ⟨H, hH⟩ : ∃ H, H = s.heap := ⟨_, rfl⟩
  rw [← hH] at hP
  have hS : va_S A s.heap H [] := by rw [hH]; exact hS
  rw [← hH]
  refine lv_aload_n hx hb dX19_block_0 rfl (lv_at hl 0 rfl) ?_
  refine lv_iconst (v := 0) hx hb dX19_block_1 (by decide) ?_
  refine va_put (D := (dC, dI)) (ci := 16) (v := .int 0) (ty := .int) (C := RX19) (T := TX19) (N := 41) hx hb hts mem_X19_block_0 tyX19 tyX19_ok nmX19 hown hK hP hD hS 0 rfl rfl 33 (by decide) (ow (k := 0) rfl) (fun _ h9 => h9) rfl (by decide +kernel) rfl rfl (Nat.le_of_ble_eq_true rfl) dX19_block_2 (fun H locs hP hD hS => ?_)
  have hP : va_P (dC, dI) vwP [(h0, .inr (16, [.ref q_1, .ref q_12, .ref q_17, .ref q_22, .ref q_24, .ref q_26, .ref q_28, .ref q_29, .ref q_31, .ref q_33, .ref q_35, .int 0, .ref q_37, .ref q_39, .ref q_41, .ref q_43, .ref q_45, .ref q_47, .ref q_49, .ref q_51, .ref q_53, .ref q_55, .ref q_57, .int 0, .ref q_59, .ref q_61, .ref q_63, .int (-1), .int 0, .int 0, .int 0, .int 0, .ref q_65, .int 0, .ref q_68, .int 0, .int (-1), .int 0, .int 0, .ref q_70, .ref q_72]))] H := hP
  have hD : va_D A [(h0, .inr (16, [.ref q_1, .ref q_12, .ref q_17, .ref q_22, .ref q_24, .ref q_26, .ref q_28, .ref q_29, .ref q_31, .ref q_33, .ref q_35, .int 0, .ref q_37, .ref q_39, .ref q_41, .ref q_43, .ref q_45, .ref q_47, .ref q_49, .ref q_51, .ref q_53, .ref q_55, .ref q_57, .int 0, .ref q_59, .ref q_61, .ref q_63, .int (-1), .int 0, .int 0, .int 0, .int 0, .ref q_65, .int 0, .ref q_68, .int 0, .int (-1), .int 0, .int 0, .ref q_70, .ref q_72]))] := hD
  refine lv_iload_n hx hb dX19_block_5 rfl (lv_at hl 2 rfl) ?_
  refine lv_if_lt (tgt := 14) hx hb dX19_block_6 (by decide) (fun b6 => ?_) (fun b6 => ?_)
  · refine lv_aload_n hx hb dX19_block_14 rfl (lv_at hl 0 rfl) ?_
    refine lv_iconst (v := 1) hx hb dX19_block_15 (by decide) ?_
    have hPc := hP.sub (ws' := [(h0, .inr (16, [.ref q_1, .ref q_12, .ref q_17, .ref q_22, .ref q_24, .ref q_26, .ref q_28, .ref q_29, .ref q_31, .ref q_33, .ref q_35, .int 0, .ref q_37, .ref q_39, .ref q_41, .ref q_43, .ref q_45, .ref q_47, .ref q_49, .ref q_51, .ref q_53, .ref q_55, .ref q_57, .int 0, .ref q_59, .ref q_61, .ref q_63, .int (-1), .int 0, .int 0, .int 0, .int 0, .ref q_65, .int 0, .ref q_68, .int 0, .int (-1), .int 0, .int 0, .ref q_70, .ref q_72]))]) [0] rfl
    have hDc := hD.sub (ws' := [(h0, .inr (16, [.ref q_1, .ref q_12, .ref q_17, .ref q_22, .ref q_24, .ref q_26, .ref q_28, .ref q_29, .ref q_31, .ref q_33, .ref q_35, .int 0, .ref q_37, .ref q_39, .ref q_41, .ref q_43, .ref q_45, .ref q_47, .ref q_49, .ref q_51, .ref q_53, .ref q_55, .ref q_57, .int 0, .ref q_59, .ref q_61, .ref q_63, .int (-1), .int 0, .int 0, .int 0, .int 0, .ref q_65, .int 0, .ref q_68, .int 0, .int (-1), .int 0, .int 0, .ref q_70, .ref q_72]))]) [0] (by decide) rfl
    have hKc := hK.sub (tys' := []) [] rfl
    have hFc := va_free (wc := [(h0, .inr (16, [.ref q_1, .ref q_12, .ref q_17, .ref q_22, .ref q_24, .ref q_26, .ref q_28, .ref q_29, .ref q_31, .ref q_33, .ref q_35, .int 0, .ref q_37, .ref q_39, .ref q_41, .ref q_43, .ref q_45, .ref q_47, .ref q_49, .ref q_51, .ref q_53, .ref q_55, .ref q_57, .int 0, .ref q_59, .ref q_61, .ref q_63, .int (-1), .int 0, .int 0, .int 0, .int 0, .ref q_65, .int 0, .ref q_68, .int 0, .int (-1), .int 0, .int 0, .ref q_70, .ref q_72]))]) hD hS hA [0] rfl
    refine va_calli (va_runV (As := [.int 1]) (rest := []) ⟨hx, hb, hml, hown, hts⟩ (c_X19_no l dC dI h0 q_1 q_12 q_17 q_22 q_24 q_26 q_28 q_29 q_31 q_33 q_35 q_37 q_39 q_41 q_43 q_45 q_47 q_49 q_51 q_53 q_55 q_57 q_59 q_61 q_63 q_65 q_68 q_70 q_72 1 H.size) (cwV 1 hts g_X19_block_X19_no rfl rfl rfl (by decide +kernel) ⟨(Nat.le_of_ble_eq_true rfl), (Nat.le_of_ble_eq_true rfl)⟩) ⟨fun a U g mk q => by obtain ⟨q0, q1, qP, qK, qD⟩ := q; exact ⟨q0, q1, qP, va_K.moved (u := U) (U := U.calling g mk a) (Vm.Alike.refl U.vm) qK, qD⟩, va_recv hKc hPc (ci := 16) (q0 := 0) rfl rfl, fun U hU hW => ⟨rfl, by rw [hU], by rw [hU]; exact hPc, va_K.moved hW.alike hKc, hDc.weaken (fun _ _ _ _ => trivial)⟩⟩ rfl rfl hl.1 rfl (lv_room (Nat.le_of_ble_eq_true rfl)) dX19_block_16 ⟨(Nat.le_of_ble_eq_true rfl), (Nat.le_of_ble_eq_true rfl)⟩) hS (fun q _ h => hFc q h) hFc (fun r_2001 u t H1 locs ht hvm hw hB hz1 hk1 hS => ?_)
    obtain ⟨hP1, hK1, hD1⟩ := hB
    rw [ht] at hP1
    have hK1 := va_K.moved hvm.symm hK1
    obtain ⟨hP, hD⟩ := va_join (wr := []) (w1 := [(h0, .inr (16, [.ref q_1, .ref q_12, .ref q_17, .ref q_22, .ref q_24, .ref q_26, .ref q_28, .ref q_29, .ref q_31, .ref q_33, .ref q_35, .int 0, .ref q_37, .ref q_39, .ref q_41, .ref q_43, .ref q_45, .ref q_47, .ref q_49, .ref q_51, .ref q_53, .ref q_55, .ref q_57, .int 0, .ref q_59, .ref q_61, .ref q_63, .int (-1), .int 0, .int 0, .int 0, .int 0, .ref q_65, .int 1, .ref q_68, .int 0, .int (-1), .int 0, .int 0, .ref q_70, .ref q_72]))]) hP hD [0] [] rfl rfl (by decide) (by decide) hk1 hFc hP1 hD1
    have hK := (hK.sub (tys' := []) [] rfl).app hK1
    generalize H1 = H at hP hS ⊢
    have hP : va_P (dC, dI) vwP [(h0, .inr (16, [.ref q_1, .ref q_12, .ref q_17, .ref q_22, .ref q_24, .ref q_26, .ref q_28, .ref q_29, .ref q_31, .ref q_33, .ref q_35, .int 0, .ref q_37, .ref q_39, .ref q_41, .ref q_43, .ref q_45, .ref q_47, .ref q_49, .ref q_51, .ref q_53, .ref q_55, .ref q_57, .int 0, .ref q_59, .ref q_61, .ref q_63, .int (-1), .int 0, .int 0, .int 0, .int 0, .ref q_65, .int 1, .ref q_68, .int 0, .int (-1), .int 0, .int 0, .ref q_70, .ref q_72]))] H := hP
    have hD : va_D A [(h0, .inr (16, [.ref q_1, .ref q_12, .ref q_17, .ref q_22, .ref q_24, .ref q_26, .ref q_28, .ref q_29, .ref q_31, .ref q_33, .ref q_35, .int 0, .ref q_37, .ref q_39, .ref q_41, .ref q_43, .ref q_45, .ref q_47, .ref q_49, .ref q_51, .ref q_53, .ref q_55, .ref q_57, .int 0, .ref q_59, .ref q_61, .ref q_63, .int (-1), .int 0, .int 0, .int 0, .int 0, .ref q_65, .int 1, .ref q_68, .int 0, .int (-1), .int 0, .int 0, .ref q_70, .ref q_72]))] := hD
    have hK : va_K (dC, dI) vwP [] s := hK
    refine W.widen (k := 0) (n := 0) (Nat.le_of_ble_eq_true rfl) (Nat.le_of_ble_eq_true rfl) ?_
    obtain rfl : r_2001 = 0 := hw
    have zb6 : p1.toInt < 0 := z_lt b6
    refine W.widen (k := 0) (n := 0) (Nat.le_of_ble_eq_true rfl) (Nat.le_of_ble_eq_true rfl) ?_
    exact W.iret (v := 0) hx hb hr (fun t ht hW => ⟨⟨0, (), rfl, (fun h9 => absurd ((show kf_block p1 = 1 by unfold kf_block; first | rfl | (split <;> first | rfl | (exfalso; omega))).symm.trans h9) (by decide)), 1, 0, (-1), 0, q_72, (show kf_block p1 = 1 by unfold kf_block; first | rfl | (split <;> first | rfl | (exfalso; omega))).symm, by rw [ht]; exact hP, va_K.moved hW.alike hK, hD⟩, hS.F ht⟩) hS.2.2 dX19_block_19
  · refine lv_iload_n hx hb dX19_block_9 rfl (lv_at hl 2 rfl) ?_
    refine lv_iconst (v := 4) hx hb dX19_block_10 (by decide) ?_
    refine lv_icmp_le (tgt := 20) hx hb dX19_block_11 (by decide) (fun b11 => ?_) (fun b11 => ?_)
    · refine lv_aload_n hx hb dX19_block_20 rfl (lv_at hl 0 rfl) ?_
      refine va_get (D := (dC, dI)) (ci := 16) (v := .int (-1)) (C := RX19) (T := TX19) (N := 41) hx hb hts mem_X19_block_0 hown hK hP 0 rfl rfl 36 (by decide) (ow (k := 5) rfl) (fun _ h9 => h9) rfl dX19_block_21 ?_
      refine lv_if_lt (tgt := 42) hx hb dX19_block_24 (by decide) (fun _ => ?_) (fun h9 => absurd h9 (by decide))
      refine lv_aload_n hx hb dX19_block_42 rfl (lv_at hl 0 rfl) ?_
      refine lv_iconst (v := 2) hx hb dX19_block_43 (by decide) ?_
      have hPc := hP.sub (ws' := [(h0, .inr (16, [.ref q_1, .ref q_12, .ref q_17, .ref q_22, .ref q_24, .ref q_26, .ref q_28, .ref q_29, .ref q_31, .ref q_33, .ref q_35, .int 0, .ref q_37, .ref q_39, .ref q_41, .ref q_43, .ref q_45, .ref q_47, .ref q_49, .ref q_51, .ref q_53, .ref q_55, .ref q_57, .int 0, .ref q_59, .ref q_61, .ref q_63, .int (-1), .int 0, .int 0, .int 0, .int 0, .ref q_65, .int 0, .ref q_68, .int 0, .int (-1), .int 0, .int 0, .ref q_70, .ref q_72]))]) [0] rfl
      have hDc := hD.sub (ws' := [(h0, .inr (16, [.ref q_1, .ref q_12, .ref q_17, .ref q_22, .ref q_24, .ref q_26, .ref q_28, .ref q_29, .ref q_31, .ref q_33, .ref q_35, .int 0, .ref q_37, .ref q_39, .ref q_41, .ref q_43, .ref q_45, .ref q_47, .ref q_49, .ref q_51, .ref q_53, .ref q_55, .ref q_57, .int 0, .ref q_59, .ref q_61, .ref q_63, .int (-1), .int 0, .int 0, .int 0, .int 0, .ref q_65, .int 0, .ref q_68, .int 0, .int (-1), .int 0, .int 0, .ref q_70, .ref q_72]))]) [0] (by decide) rfl
      have hKc := hK.sub (tys' := []) [] rfl
      have hFc := va_free (wc := [(h0, .inr (16, [.ref q_1, .ref q_12, .ref q_17, .ref q_22, .ref q_24, .ref q_26, .ref q_28, .ref q_29, .ref q_31, .ref q_33, .ref q_35, .int 0, .ref q_37, .ref q_39, .ref q_41, .ref q_43, .ref q_45, .ref q_47, .ref q_49, .ref q_51, .ref q_53, .ref q_55, .ref q_57, .int 0, .ref q_59, .ref q_61, .ref q_63, .int (-1), .int 0, .int 0, .int 0, .int 0, .ref q_65, .int 0, .ref q_68, .int 0, .int (-1), .int 0, .int 0, .ref q_70, .ref q_72]))]) hD hS hA [0] rfl
      refine va_calli (va_runV (As := [.int 2]) (rest := []) ⟨hx, hb, hml, hown, hts⟩ (c_X19_no l dC dI h0 q_1 q_12 q_17 q_22 q_24 q_26 q_28 q_29 q_31 q_33 q_35 q_37 q_39 q_41 q_43 q_45 q_47 q_49 q_51 q_53 q_55 q_57 q_59 q_61 q_63 q_65 q_68 q_70 q_72 2 H.size) (cwV 1 hts g_X19_block_X19_no rfl rfl rfl (by decide +kernel) ⟨(Nat.le_of_ble_eq_true rfl), (Nat.le_of_ble_eq_true rfl)⟩) ⟨fun a U g mk q => by obtain ⟨q0, q1, qP, qK, qD⟩ := q; exact ⟨q0, q1, qP, va_K.moved (u := U) (U := U.calling g mk a) (Vm.Alike.refl U.vm) qK, qD⟩, va_recv hKc hPc (ci := 16) (q0 := 0) rfl rfl, fun U hU hW => ⟨rfl, by rw [hU], by rw [hU]; exact hPc, va_K.moved hW.alike hKc, hDc.weaken (fun _ _ _ _ => trivial)⟩⟩ rfl rfl hl.1 rfl (lv_room (Nat.le_of_ble_eq_true rfl)) dX19_block_44 ⟨(Nat.le_of_ble_eq_true rfl), (Nat.le_of_ble_eq_true rfl)⟩) hS (fun q _ h => hFc q h) hFc (fun r_2002 u t H1 locs ht hvm hw hB hz1 hk1 hS => ?_)
      obtain ⟨hP1, hK1, hD1⟩ := hB
      rw [ht] at hP1
      have hK1 := va_K.moved hvm.symm hK1
      obtain ⟨hP, hD⟩ := va_join (wr := []) (w1 := [(h0, .inr (16, [.ref q_1, .ref q_12, .ref q_17, .ref q_22, .ref q_24, .ref q_26, .ref q_28, .ref q_29, .ref q_31, .ref q_33, .ref q_35, .int 0, .ref q_37, .ref q_39, .ref q_41, .ref q_43, .ref q_45, .ref q_47, .ref q_49, .ref q_51, .ref q_53, .ref q_55, .ref q_57, .int 0, .ref q_59, .ref q_61, .ref q_63, .int (-1), .int 0, .int 0, .int 0, .int 0, .ref q_65, .int 2, .ref q_68, .int 0, .int (-1), .int 0, .int 0, .ref q_70, .ref q_72]))]) hP hD [0] [] rfl rfl (by decide) (by decide) hk1 hFc hP1 hD1
      have hK := (hK.sub (tys' := []) [] rfl).app hK1
      generalize H1 = H at hP hS ⊢
      have hP : va_P (dC, dI) vwP [(h0, .inr (16, [.ref q_1, .ref q_12, .ref q_17, .ref q_22, .ref q_24, .ref q_26, .ref q_28, .ref q_29, .ref q_31, .ref q_33, .ref q_35, .int 0, .ref q_37, .ref q_39, .ref q_41, .ref q_43, .ref q_45, .ref q_47, .ref q_49, .ref q_51, .ref q_53, .ref q_55, .ref q_57, .int 0, .ref q_59, .ref q_61, .ref q_63, .int (-1), .int 0, .int 0, .int 0, .int 0, .ref q_65, .int 2, .ref q_68, .int 0, .int (-1), .int 0, .int 0, .ref q_70, .ref q_72]))] H := hP
      have hD : va_D A [(h0, .inr (16, [.ref q_1, .ref q_12, .ref q_17, .ref q_22, .ref q_24, .ref q_26, .ref q_28, .ref q_29, .ref q_31, .ref q_33, .ref q_35, .int 0, .ref q_37, .ref q_39, .ref q_41, .ref q_43, .ref q_45, .ref q_47, .ref q_49, .ref q_51, .ref q_53, .ref q_55, .ref q_57, .int 0, .ref q_59, .ref q_61, .ref q_63, .int (-1), .int 0, .int 0, .int 0, .int 0, .ref q_65, .int 2, .ref q_68, .int 0, .int (-1), .int 0, .int 0, .ref q_70, .ref q_72]))] := hD
      have hK : va_K (dC, dI) vwP [] s := hK
      refine W.widen (k := 0) (n := 0) (Nat.le_of_ble_eq_true rfl) (Nat.le_of_ble_eq_true rfl) ?_
      obtain rfl : r_2002 = 0 := hw
      have zb6 : 0 ≤ p1.toInt := z_nlt b6
      have zb11 : p1.toInt ≤ 4 := z_le b11
      refine W.widen (k := 0) (n := 0) (Nat.le_of_ble_eq_true rfl) (Nat.le_of_ble_eq_true rfl) ?_
      exact W.iret (v := 0) hx hb hr (fun t ht hW => ⟨⟨0, (), rfl, (fun h9 => absurd ((show kf_block p1 = 2 by unfold kf_block; first | rfl | (split <;> first | rfl | (exfalso; omega))).symm.trans h9) (by decide)), 2, 0, (-1), 0, q_72, (show kf_block p1 = 2 by unfold kf_block; first | rfl | (split <;> first | rfl | (exfalso; omega))).symm, by rw [ht]; exact hP, va_K.moved hW.alike hK, hD⟩, hS.F ht⟩) hS.2.2 dX19_block_47
    · refine lv_aload_n hx hb dX19_block_14 rfl (lv_at hl 0 rfl) ?_
      refine lv_iconst (v := 1) hx hb dX19_block_15 (by decide) ?_
      have hPc := hP.sub (ws' := [(h0, .inr (16, [.ref q_1, .ref q_12, .ref q_17, .ref q_22, .ref q_24, .ref q_26, .ref q_28, .ref q_29, .ref q_31, .ref q_33, .ref q_35, .int 0, .ref q_37, .ref q_39, .ref q_41, .ref q_43, .ref q_45, .ref q_47, .ref q_49, .ref q_51, .ref q_53, .ref q_55, .ref q_57, .int 0, .ref q_59, .ref q_61, .ref q_63, .int (-1), .int 0, .int 0, .int 0, .int 0, .ref q_65, .int 0, .ref q_68, .int 0, .int (-1), .int 0, .int 0, .ref q_70, .ref q_72]))]) [0] rfl
      have hDc := hD.sub (ws' := [(h0, .inr (16, [.ref q_1, .ref q_12, .ref q_17, .ref q_22, .ref q_24, .ref q_26, .ref q_28, .ref q_29, .ref q_31, .ref q_33, .ref q_35, .int 0, .ref q_37, .ref q_39, .ref q_41, .ref q_43, .ref q_45, .ref q_47, .ref q_49, .ref q_51, .ref q_53, .ref q_55, .ref q_57, .int 0, .ref q_59, .ref q_61, .ref q_63, .int (-1), .int 0, .int 0, .int 0, .int 0, .ref q_65, .int 0, .ref q_68, .int 0, .int (-1), .int 0, .int 0, .ref q_70, .ref q_72]))]) [0] (by decide) rfl
      have hKc := hK.sub (tys' := []) [] rfl
      have hFc := va_free (wc := [(h0, .inr (16, [.ref q_1, .ref q_12, .ref q_17, .ref q_22, .ref q_24, .ref q_26, .ref q_28, .ref q_29, .ref q_31, .ref q_33, .ref q_35, .int 0, .ref q_37, .ref q_39, .ref q_41, .ref q_43, .ref q_45, .ref q_47, .ref q_49, .ref q_51, .ref q_53, .ref q_55, .ref q_57, .int 0, .ref q_59, .ref q_61, .ref q_63, .int (-1), .int 0, .int 0, .int 0, .int 0, .ref q_65, .int 0, .ref q_68, .int 0, .int (-1), .int 0, .int 0, .ref q_70, .ref q_72]))]) hD hS hA [0] rfl
      refine va_calli (va_runV (As := [.int 1]) (rest := []) ⟨hx, hb, hml, hown, hts⟩ (c_X19_no l dC dI h0 q_1 q_12 q_17 q_22 q_24 q_26 q_28 q_29 q_31 q_33 q_35 q_37 q_39 q_41 q_43 q_45 q_47 q_49 q_51 q_53 q_55 q_57 q_59 q_61 q_63 q_65 q_68 q_70 q_72 1 H.size) (cwV 1 hts g_X19_block_X19_no rfl rfl rfl (by decide +kernel) ⟨(Nat.le_of_ble_eq_true rfl), (Nat.le_of_ble_eq_true rfl)⟩) ⟨fun a U g mk q => by obtain ⟨q0, q1, qP, qK, qD⟩ := q; exact ⟨q0, q1, qP, va_K.moved (u := U) (U := U.calling g mk a) (Vm.Alike.refl U.vm) qK, qD⟩, va_recv hKc hPc (ci := 16) (q0 := 0) rfl rfl, fun U hU hW => ⟨rfl, by rw [hU], by rw [hU]; exact hPc, va_K.moved hW.alike hKc, hDc.weaken (fun _ _ _ _ => trivial)⟩⟩ rfl rfl hl.1 rfl (lv_room (Nat.le_of_ble_eq_true rfl)) dX19_block_16 ⟨(Nat.le_of_ble_eq_true rfl), (Nat.le_of_ble_eq_true rfl)⟩) hS (fun q _ h => hFc q h) hFc (fun r_2003 u t H1 locs ht hvm hw hB hz1 hk1 hS => ?_)
      obtain ⟨hP1, hK1, hD1⟩ := hB
      rw [ht] at hP1
      have hK1 := va_K.moved hvm.symm hK1
      obtain ⟨hP, hD⟩ := va_join (wr := []) (w1 := [(h0, .inr (16, [.ref q_1, .ref q_12, .ref q_17, .ref q_22, .ref q_24, .ref q_26, .ref q_28, .ref q_29, .ref q_31, .ref q_33, .ref q_35, .int 0, .ref q_37, .ref q_39, .ref q_41, .ref q_43, .ref q_45, .ref q_47, .ref q_49, .ref q_51, .ref q_53, .ref q_55, .ref q_57, .int 0, .ref q_59, .ref q_61, .ref q_63, .int (-1), .int 0, .int 0, .int 0, .int 0, .ref q_65, .int 1, .ref q_68, .int 0, .int (-1), .int 0, .int 0, .ref q_70, .ref q_72]))]) hP hD [0] [] rfl rfl (by decide) (by decide) hk1 hFc hP1 hD1
      have hK := (hK.sub (tys' := []) [] rfl).app hK1
      generalize H1 = H at hP hS ⊢
      have hP : va_P (dC, dI) vwP [(h0, .inr (16, [.ref q_1, .ref q_12, .ref q_17, .ref q_22, .ref q_24, .ref q_26, .ref q_28, .ref q_29, .ref q_31, .ref q_33, .ref q_35, .int 0, .ref q_37, .ref q_39, .ref q_41, .ref q_43, .ref q_45, .ref q_47, .ref q_49, .ref q_51, .ref q_53, .ref q_55, .ref q_57, .int 0, .ref q_59, .ref q_61, .ref q_63, .int (-1), .int 0, .int 0, .int 0, .int 0, .ref q_65, .int 1, .ref q_68, .int 0, .int (-1), .int 0, .int 0, .ref q_70, .ref q_72]))] H := hP
      have hD : va_D A [(h0, .inr (16, [.ref q_1, .ref q_12, .ref q_17, .ref q_22, .ref q_24, .ref q_26, .ref q_28, .ref q_29, .ref q_31, .ref q_33, .ref q_35, .int 0, .ref q_37, .ref q_39, .ref q_41, .ref q_43, .ref q_45, .ref q_47, .ref q_49, .ref q_51, .ref q_53, .ref q_55, .ref q_57, .int 0, .ref q_59, .ref q_61, .ref q_63, .int (-1), .int 0, .int 0, .int 0, .int 0, .ref q_65, .int 1, .ref q_68, .int 0, .int (-1), .int 0, .int 0, .ref q_70, .ref q_72]))] := hD
      have hK : va_K (dC, dI) vwP [] s := hK
      refine W.widen (k := 0) (n := 0) (Nat.le_of_ble_eq_true rfl) (Nat.le_of_ble_eq_true rfl) ?_
      obtain rfl : r_2003 = 0 := hw
      have zb6 : 0 ≤ p1.toInt := z_nlt b6
      have zb11 : 4 < p1.toInt := z_nle b11
      refine W.widen (k := 0) (n := 0) (Nat.le_of_ble_eq_true rfl) (Nat.le_of_ble_eq_true rfl) ?_
      exact W.iret (v := 0) hx hb hr (fun t ht hW => ⟨⟨0, (), rfl, (fun h9 => absurd ((show kf_block p1 = 1 by unfold kf_block; first | rfl | (split <;> first | rfl | (exfalso; omega))).symm.trans h9) (by decide)), 1, 0, (-1), 0, q_72, (show kf_block p1 = 1 by unfold kf_block; first | rfl | (split <;> first | rfl | (exfalso; omega))).symm, by rw [ht]; exact hP, va_K.moved hW.alike hK, hD⟩, hS.F ht⟩) hS.2.2 dX19_block_19
theorem dX19_list___0 : decode cX19_list__ 0 = .ok (.aload_n 0, 1) := by decide +kernel
theorem dX19_list___1 : decode cX19_list__ 1 = .ok (.iconst 0, 1) := by decide +kernel
theorem dX19_list___2 : decode cX19_list__ 2 = .ok (.putfield 560, 3) := by decide +kernel
theorem dX19_list___5 : decode cX19_list__ 5 = .ok (.aload_n 0, 1) := by decide +kernel
theorem dX19_list___6 : decode cX19_list__ 6 = .ok (.getfield 555, 3) := by decide +kernel
theorem dX19_list___9 : decode cX19_list__ 9 = .ok (.ifCond .ge 9, 3) := by decide +kernel
theorem dX19_list___12 : decode cX19_list__ 12 = .ok (.aload_n 0, 1) := by decide +kernel
theorem dX19_list___13 : decode cX19_list__ 13 = .ok (.iconst 1, 1) := by decide +kernel
theorem dX19_list___14 : decode cX19_list__ 14 = .ok (.invokevirtual 565, 3) := by decide +kernel
theorem dX19_list___17 : decode cX19_list__ 17 = .ok (.ireturn, 1) := by decide +kernel
def o_X19_list__ : List Cond := [.fieldLink RX19 560 "SsaForgeModel" "thrown" "I", .fieldLink RX19 555 "SsaForgeModel" "form" "I", .methodLink RX19 565 yX19_no, .instanceMethod yX19_no, .selects RX19 yX19_no yX19_no, .initialized RX19]
def v_X19_list__ : List Cond := .code yX19_list__ cX19_list__ 2 (some .int) :: (o_X19_list__ ++ (wsX190 ++ (v_X19_no ++ [])))
theorem mow_X19_list__ : ∀ w ∈ o_X19_list__, w ∈ v_X19_list__ := fun _ h => List.mem_cons_of_mem _ (List.mem_append_left _ h)
theorem mem_X19_list___0 : ∀ w ∈ wsX190, w ∈ v_X19_list__ := fun _ h => List.mem_cons_of_mem _ (List.mem_append_right _ (List.mem_append_left _ h))
theorem mem_X19_list___1 : ∀ w ∈ v_X19_no, w ∈ v_X19_list__ := fun _ h => List.mem_cons_of_mem _ (List.mem_append_right _ (List.mem_append_right _ (List.mem_append_left _ h)))
set_option maxRecDepth 20000 in
theorem gw_X19_list__ : v_X19_list__.all goodWord = true := by decide +kernel
set_option maxRecDepth 20000 in
theorem g_X19_list___X19_no : GoodIn v_X19_list__ (wsV RX19 565 RX19 yX19_no v_X19_no) := goodIn_app (goodIn_sub (fun w h => mow_X19_list__ w (by revert w h; decide +kernel)) (by decide +kernel)) (goodIn_sub mem_X19_list___1 gw_X19_no)
set_option maxHeartbeats 4000000 in
set_option maxRecDepth 100000 in
theorem c_X19_list__ (l : Launch) (dC : Nat → ClassId) (dI : Nat → Nat → Nat) (h0 : Nat) (q_1 : Nat) (q_12 : Nat) (q_17 : Nat) (q_22 : Nat) (q_24 : Nat) (q_26 : Nat) (q_28 : Nat) (q_29 : Nat) (q_31 : Nat) (q_33 : Nat) (q_35 : Nat) (q_37 : Nat) (q_39 : Nat) (q_41 : Nat) (q_43 : Nat) (q_45 : Nat) (q_47 : Nat) (q_49 : Nat) (q_51 : Nat) (q_53 : Nat) (q_55 : Nat) (q_57 : Nat) (q_59 : Nat) (q_61 : Nat) (q_63 : Nat) (q_65 : Nat) (q_68 : Nat) (q_70 : Nat) (q_72 : Nat) (sz : Nat) : Met l yX19_list__ v_X19_list__ ({ frames := 1, cells := 0, slots := 0, locals := 21 }) (va_Pc [.ref h0] (fun U => U.heap.size = sz ∧ va_P (dC, dI) vwP [(h0, .inr (16, [.ref q_1, .ref q_12, .ref q_17, .ref q_22, .ref q_24, .ref q_26, .ref q_28, .ref q_29, .ref q_31, .ref q_33, .ref q_35, .int 0, .ref q_37, .ref q_39, .ref q_41, .ref q_43, .ref q_45, .ref q_47, .ref q_49, .ref q_51, .ref q_53, .ref q_55, .ref q_57, .int 0, .ref q_59, .ref q_61, .ref q_63, .int (-1), .int 0, .int 0, .int 0, .int 0, .ref q_65, .int 0, .ref q_68, .int 0, .int (-1), .int 0, .int 0, .ref q_70, .ref q_72]))] U.heap ∧ va_K (dC, dI) vwP [] U ∧ va_D (fun _ => True) [(h0, .inr (16, [.ref q_1, .ref q_12, .ref q_17, .ref q_22, .ref q_24, .ref q_26, .ref q_28, .ref q_29, .ref q_31, .ref q_33, .ref q_35, .int 0, .ref q_37, .ref q_39, .ref q_41, .ref q_43, .ref q_45, .ref q_47, .ref q_49, .ref q_51, .ref q_53, .ref q_55, .ref q_57, .int 0, .ref q_59, .ref q_61, .ref q_63, .int (-1), .int 0, .int 0, .int 0, .int 0, .ref q_65, .int 0, .ref q_68, .int 0, .int (-1), .int 0, .int 0, .ref q_70, .ref q_72]))])) (va_Qi (fun (r : Int32) (_ : Unit) => kf_list = 0 → r = vf_list) (fun (_ : Unit) (t : State) => ∃ (i_33 : Int32) (i_35 : Int32) (i_36 : Int32) (i_37 : Int32) (q_940 : Nat), (i_33 = kf_list) ∧ va_P (dC, dI) vwP [(h0, .inr (16, [.ref q_1, .ref q_12, .ref q_17, .ref q_22, .ref q_24, .ref q_26, .ref q_28, .ref q_29, .ref q_31, .ref q_33, .ref q_35, .int 0, .ref q_37, .ref q_39, .ref q_41, .ref q_43, .ref q_45, .ref q_47, .ref q_49, .ref q_51, .ref q_53, .ref q_55, .ref q_57, .int 0, .ref q_59, .ref q_61, .ref q_63, .int (-1), .int 0, .int 0, .int 0, .int 0, .ref q_65, .int i_33, .ref q_68, .int i_35, .int i_36, .int i_37, .int 0, .ref q_70, .ref q_940]))] t.heap ∧ va_K (dC, dI) vwP [] t ∧ va_D (va_A [(h0, .inr (16, [.ref q_1, .ref q_12, .ref q_17, .ref q_22, .ref q_24, .ref q_26, .ref q_28, .ref q_29, .ref q_31, .ref q_33, .ref q_35, .int 0, .ref q_37, .ref q_39, .ref q_41, .ref q_43, .ref q_45, .ref q_47, .ref q_49, .ref q_51, .ref q_53, .ref q_55, .ref q_57, .int 0, .ref q_59, .ref q_61, .ref q_63, .int (-1), .int 0, .int 0, .int 0, .int 0, .ref q_65, .int 0, .ref q_68, .int 0, .int (-1), .int 0, .int 0, .ref q_70, .ref q_72]))] sz) [(h0, .inr (16, [.ref q_1, .ref q_12, .ref q_17, .ref q_22, .ref q_24, .ref q_26, .ref q_28, .ref q_29, .ref q_31, .ref q_33, .ref q_35, .int 0, .ref q_37, .ref q_39, .ref q_41, .ref q_43, .ref q_45, .ref q_47, .ref q_49, .ref q_51, .ref q_53, .ref q_55, .ref q_57, .int 0, .ref q_59, .ref q_61, .ref q_63, .int (-1), .int 0, .int 0, .int 0, .int 0, .ref q_65, .int i_33, .ref q_68, .int i_35, .int i_36, .int i_37, .int 0, .ref q_70, .ref q_940]))]) (va_A [(h0, .inr (16, [.ref q_1, .ref q_12, .ref q_17, .ref q_22, .ref q_24, .ref q_26, .ref q_28, .ref q_29, .ref q_31, .ref q_33, .ref q_35, .int 0, .ref q_37, .ref q_39, .ref q_41, .ref q_43, .ref q_45, .ref q_47, .ref q_49, .ref q_51, .ref q_53, .ref q_55, .ref q_57, .int 0, .ref q_59, .ref q_61, .ref q_63, .int (-1), .int 0, .int 0, .int 0, .int 0, .ref q_65, .int 0, .ref q_68, .int 0, .int (-1), .int 0, .int 0, .ref q_70, .ref q_72]))] sz)) 0 0 (va_A [(h0, .inr (16, [.ref q_1, .ref q_12, .ref q_17, .ref q_22, .ref q_24, .ref q_26, .ref q_28, .ref q_29, .ref q_31, .ref q_33, .ref q_35, .int 0, .ref q_37, .ref q_39, .ref q_41, .ref q_43, .ref q_45, .ref q_47, .ref q_49, .ref q_51, .ref q_53, .ref q_55, .ref q_57, .int 0, .ref q_59, .ref q_61, .ref q_63, .int (-1), .int 0, .int 0, .int 0, .int 0, .ref q_65, .int 0, .ref q_68, .int 0, .int (-1), .int 0, .int 0, .ref q_70, .ref q_72]))] sz) := by
  refine Met.ofW (cc := cX19_list__) (maxL := 2) (ret := (some .int)) (by decide) rfl ?_
  intro p e s m args below meth c s₁ B hml hv
  obtain ⟨rfl, hsz, hP, hK, hD0⟩ := hv
  have hx := B.exec
  have hb := B.bytes
  have hr := B.returns
  have hts := atoms_spec (ws := v_X19_list__) B.pre
  have hown : s.vm.findClass RX19 = some m.cls := findClass_of_methodNamed B.named
  have hlocks := B.notSynchronized
  have ow : ∀ {k : Nat} {w : Cond}, o_X19_list__[k]? = some w → w.before ([.ref h0] : List Value).toArray s = true := fun h => hts _ (mow_X19_list__ _ (List.mem_of_getElem? h))
  subst hsz
  have hD := hD0.self (sz := s.heap.size)
  generalize hAe : va_A [(h0, .inr (16, [.ref q_1, .ref q_12, .ref q_17, .ref q_22, .ref q_24, .ref q_26, .ref q_28, .ref q_29, .ref q_31, .ref q_33, .ref q_35, .int 0, .ref q_37, .ref q_39, .ref q_41, .ref q_43, .ref q_45, .ref q_47, .ref q_49, .ref q_51, .ref q_53, .ref q_55, .ref q_57, .int 0, .ref q_59, .ref q_61, .ref q_63, .int (-1), .int 0, .int 0, .int 0, .int 0, .ref q_65, .int 0, .ref q_68, .int 0, .int (-1), .int 0, .int 0, .ref q_70, .ref q_72]))] s.heap.size = A at hD ⊢
  have hA : ∀ q : Nat, s.heap.size ≤ q → A q := fun q h => by rw [← hAe]; exact Or.inr h
  have hS : va_S A s.heap s.heap [] := va_S.rf
  have hP : va_P (dC, dI) vwP [(h0, .inr (16, [.ref q_1, .ref q_12, .ref q_17, .ref q_22, .ref q_24, .ref q_26, .ref q_28, .ref q_29, .ref q_31, .ref q_33, .ref q_35, .int 0, .ref q_37, .ref q_39, .ref q_41, .ref q_43, .ref q_45, .ref q_47, .ref q_49, .ref q_51, .ref q_53, .ref q_55, .ref q_57, .int 0, .ref q_59, .ref q_61, .ref q_63, .int (-1), .int 0, .int 0, .int 0, .int 0, .ref q_65, .int 0, .ref q_68, .int 0, .int (-1), .int 0, .int 0, .ref q_70, .ref q_72]))] s.heap := hP
  have hl := lv_entry ([.ref h0]) (n := 2) (Nat.le_of_ble_eq_true rfl)
  rw [lg_entry_eq]
  generalize (lg_sl ([.ref h0]) ++ List.replicate (2 - (lg_sl ([.ref h0])).length) Slot.unset).toArray = ls at hl ⊢
  have hl : lv_has ls 2 [(0, .ref h0)] := hl
  obtain ⟨H, hH⟩ : ∃ H, H = s.heap := ⟨_, rfl⟩
  rw [← hH] at hP
  have hS : va_S A s.heap H [] := by rw [hH]; exact hS
  rw [← hH]
  refine lv_aload_n hx hb dX19_list___0 rfl (lv_at hl 0 rfl) ?_
  refine lv_iconst (v := 0) hx hb dX19_list___1 (by decide) ?_
  refine va_put (D := (dC, dI)) (ci := 16) (v := .int 0) (ty := .int) (C := RX19) (T := TX19) (N := 41) hx hb hts mem_X19_list___0 tyX19 tyX19_ok nmX19 hown hK hP hD hS 0 rfl rfl 33 (by decide) (ow (k := 0) rfl) (fun _ h9 => h9) rfl (by decide +kernel) rfl rfl (Nat.le_of_ble_eq_true rfl) dX19_list___2 (fun H locs hP hD hS => ?_)
  have hP : va_P (dC, dI) vwP [(h0, .inr (16, [.ref q_1, .ref q_12, .ref q_17, .ref q_22, .ref q_24, .ref q_26, .ref q_28, .ref q_29, .ref q_31, .ref q_33, .ref q_35, .int 0, .ref q_37, .ref q_39, .ref q_41, .ref q_43, .ref q_45, .ref q_47, .ref q_49, .ref q_51, .ref q_53, .ref q_55, .ref q_57, .int 0, .ref q_59, .ref q_61, .ref q_63, .int (-1), .int 0, .int 0, .int 0, .int 0, .ref q_65, .int 0, .ref q_68, .int 0, .int (-1), .int 0, .int 0, .ref q_70, .ref q_72]))] H := hP
  have hD : va_D A [(h0, .inr (16, [.ref q_1, .ref q_12, .ref q_17, .ref q_22, .ref q_24, .ref q_26, .ref q_28, .ref q_29, .ref q_31, .ref q_33, .ref q_35, .int 0, .ref q_37, .ref q_39, .ref q_41, .ref q_43, .ref q_45, .ref q_47, .ref q_49, .ref q_51, .ref q_53, .ref q_55, .ref q_57, .int 0, .ref q_59, .ref q_61, .ref q_63, .int (-1), .int 0, .int 0, .int 0, .int 0, .ref q_65, .int 0, .ref q_68, .int 0, .int (-1), .int 0, .int 0, .ref q_70, .ref q_72]))] := hD
  refine lv_aload_n hx hb dX19_list___5 rfl (lv_at hl 0 rfl) ?_
  refine va_get (D := (dC, dI)) (ci := 16) (v := .int (-1)) (C := RX19) (T := TX19) (N := 41) hx hb hts mem_X19_list___0 hown hK hP 0 rfl rfl 36 (by decide) (ow (k := 1) rfl) (fun _ h9 => h9) rfl dX19_list___6 ?_
  refine lv_if_ge (tgt := 18) hx hb dX19_list___9 (by decide) (fun h9 => absurd h9 (by decide)) (fun _ => ?_)
  refine lv_aload_n hx hb dX19_list___12 rfl (lv_at hl 0 rfl) ?_
  refine lv_iconst (v := 1) hx hb dX19_list___13 (by decide) ?_
  have hPc := hP.sub (ws' := [(h0, .inr (16, [.ref q_1, .ref q_12, .ref q_17, .ref q_22, .ref q_24, .ref q_26, .ref q_28, .ref q_29, .ref q_31, .ref q_33, .ref q_35, .int 0, .ref q_37, .ref q_39, .ref q_41, .ref q_43, .ref q_45, .ref q_47, .ref q_49, .ref q_51, .ref q_53, .ref q_55, .ref q_57, .int 0, .ref q_59, .ref q_61, .ref q_63, .int (-1), .int 0, .int 0, .int 0, .int 0, .ref q_65, .int 0, .ref q_68, .int 0, .int (-1), .int 0, .int 0, .ref q_70, .ref q_72]))]) [0] rfl
  have hDc := hD.sub (ws' := [(h0, .inr (16, [.ref q_1, .ref q_12, .ref q_17, .ref q_22, .ref q_24, .ref q_26, .ref q_28, .ref q_29, .ref q_31, .ref q_33, .ref q_35, .int 0, .ref q_37, .ref q_39, .ref q_41, .ref q_43, .ref q_45, .ref q_47, .ref q_49, .ref q_51, .ref q_53, .ref q_55, .ref q_57, .int 0, .ref q_59, .ref q_61, .ref q_63, .int (-1), .int 0, .int 0, .int 0, .int 0, .ref q_65, .int 0, .ref q_68, .int 0, .int (-1), .int 0, .int 0, .ref q_70, .ref q_72]))]) [0] (by decide) rfl
  have hKc := hK.sub (tys' := []) [] rfl
  have hFc := va_free (wc := [(h0, .inr (16, [.ref q_1, .ref q_12, .ref q_17, .ref q_22, .ref q_24, .ref q_26, .ref q_28, .ref q_29, .ref q_31, .ref q_33, .ref q_35, .int 0, .ref q_37, .ref q_39, .ref q_41, .ref q_43, .ref q_45, .ref q_47, .ref q_49, .ref q_51, .ref q_53, .ref q_55, .ref q_57, .int 0, .ref q_59, .ref q_61, .ref q_63, .int (-1), .int 0, .int 0, .int 0, .int 0, .ref q_65, .int 0, .ref q_68, .int 0, .int (-1), .int 0, .int 0, .ref q_70, .ref q_72]))]) hD hS hA [0] rfl
  refine va_calli (va_runV (As := [.int 1]) (rest := []) ⟨hx, hb, hml, hown, hts⟩ (c_X19_no l dC dI h0 q_1 q_12 q_17 q_22 q_24 q_26 q_28 q_29 q_31 q_33 q_35 q_37 q_39 q_41 q_43 q_45 q_47 q_49 q_51 q_53 q_55 q_57 q_59 q_61 q_63 q_65 q_68 q_70 q_72 1 H.size) (cwV 1 hts g_X19_list___X19_no rfl rfl rfl (by decide +kernel) ⟨(Nat.le_of_ble_eq_true rfl), (Nat.le_of_ble_eq_true rfl)⟩) ⟨fun a U g mk q => by obtain ⟨q0, q1, qP, qK, qD⟩ := q; exact ⟨q0, q1, qP, va_K.moved (u := U) (U := U.calling g mk a) (Vm.Alike.refl U.vm) qK, qD⟩, va_recv hKc hPc (ci := 16) (q0 := 0) rfl rfl, fun U hU hW => ⟨rfl, by rw [hU], by rw [hU]; exact hPc, va_K.moved hW.alike hKc, hDc.weaken (fun _ _ _ _ => trivial)⟩⟩ rfl rfl hl.1 rfl (lv_room (Nat.le_of_ble_eq_true rfl)) dX19_list___14 ⟨(Nat.le_of_ble_eq_true rfl), (Nat.le_of_ble_eq_true rfl)⟩) hS (fun q _ h => hFc q h) hFc (fun r_2001 u t H1 locs ht hvm hw hB hz1 hk1 hS => ?_)
  obtain ⟨hP1, hK1, hD1⟩ := hB
  rw [ht] at hP1
  have hK1 := va_K.moved hvm.symm hK1
  obtain ⟨hP, hD⟩ := va_join (wr := []) (w1 := [(h0, .inr (16, [.ref q_1, .ref q_12, .ref q_17, .ref q_22, .ref q_24, .ref q_26, .ref q_28, .ref q_29, .ref q_31, .ref q_33, .ref q_35, .int 0, .ref q_37, .ref q_39, .ref q_41, .ref q_43, .ref q_45, .ref q_47, .ref q_49, .ref q_51, .ref q_53, .ref q_55, .ref q_57, .int 0, .ref q_59, .ref q_61, .ref q_63, .int (-1), .int 0, .int 0, .int 0, .int 0, .ref q_65, .int 1, .ref q_68, .int 0, .int (-1), .int 0, .int 0, .ref q_70, .ref q_72]))]) hP hD [0] [] rfl rfl (by decide) (by decide) hk1 hFc hP1 hD1
  have hK := (hK.sub (tys' := []) [] rfl).app hK1
  generalize H1 = H at hP hS ⊢
  have hP : va_P (dC, dI) vwP [(h0, .inr (16, [.ref q_1, .ref q_12, .ref q_17, .ref q_22, .ref q_24, .ref q_26, .ref q_28, .ref q_29, .ref q_31, .ref q_33, .ref q_35, .int 0, .ref q_37, .ref q_39, .ref q_41, .ref q_43, .ref q_45, .ref q_47, .ref q_49, .ref q_51, .ref q_53, .ref q_55, .ref q_57, .int 0, .ref q_59, .ref q_61, .ref q_63, .int (-1), .int 0, .int 0, .int 0, .int 0, .ref q_65, .int 1, .ref q_68, .int 0, .int (-1), .int 0, .int 0, .ref q_70, .ref q_72]))] H := hP
  have hD : va_D A [(h0, .inr (16, [.ref q_1, .ref q_12, .ref q_17, .ref q_22, .ref q_24, .ref q_26, .ref q_28, .ref q_29, .ref q_31, .ref q_33, .ref q_35, .int 0, .ref q_37, .ref q_39, .ref q_41, .ref q_43, .ref q_45, .ref q_47, .ref q_49, .ref q_51, .ref q_53, .ref q_55, .ref q_57, .int 0, .ref q_59, .ref q_61, .ref q_63, .int (-1), .int 0, .int 0, .int 0, .int 0, .ref q_65, .int 1, .ref q_68, .int 0, .int (-1), .int 0, .int 0, .ref q_70, .ref q_72]))] := hD
  have hK : va_K (dC, dI) vwP [] s := hK
  refine W.widen (k := 0) (n := 0) (Nat.le_of_ble_eq_true rfl) (Nat.le_of_ble_eq_true rfl) ?_
  obtain rfl : r_2001 = 0 := hw
  refine W.widen (k := 0) (n := 0) (Nat.le_of_ble_eq_true rfl) (Nat.le_of_ble_eq_true rfl) ?_
  exact W.iret (v := 0) hx hb hr (fun t ht hW => ⟨⟨0, (), rfl, (fun h9 => absurd ((show kf_list = 1 by unfold kf_list; first | rfl | (split <;> first | rfl | (exfalso; omega))).symm.trans h9) (by decide)), 1, 0, (-1), 0, q_72, (show kf_list = 1 by unfold kf_list; first | rfl | (split <;> first | rfl | (exfalso; omega))).symm, by rw [ht]; exact hP, va_K.moved hW.alike hK, hD⟩, hS.F ht⟩) hS.2.2 dX19_list___17
theorem dX19_word__0 : decode cX19_word_ 0 = .ok (.aload_n 0, 1) := by decide +kernel
theorem dX19_word__1 : decode cX19_word_ 1 = .ok (.iconst 0, 1) := by decide +kernel
theorem dX19_word__2 : decode cX19_word_ 2 = .ok (.putfield 560, 3) := by decide +kernel
theorem dX19_word__5 : decode cX19_word_ 5 = .ok (.iload_n 1, 1) := by decide +kernel
theorem dX19_word__6 : decode cX19_word_ 6 = .ok (.ifCond .lt 11, 3) := by decide +kernel
theorem dX19_word__17 : decode cX19_word_ 17 = .ok (.aload_n 0, 1) := by decide +kernel
theorem dX19_word__18 : decode cX19_word_ 18 = .ok (.iconst 1, 1) := by decide +kernel
theorem dX19_word__19 : decode cX19_word_ 19 = .ok (.invokevirtual 565, 3) := by decide +kernel
theorem dX19_word__22 : decode cX19_word_ 22 = .ok (.i2l, 1) := by decide +kernel
theorem dX19_word__23 : decode cX19_word_ 23 = .ok (.lreturn, 1) := by decide +kernel
theorem dX19_word__9 : decode cX19_word_ 9 = .ok (.iload_n 1, 1) := by decide +kernel
theorem dX19_word__10 : decode cX19_word_ 10 = .ok (.aload_n 0, 1) := by decide +kernel
theorem dX19_word__11 : decode cX19_word_ 11 = .ok (.getfield 635, 3) := by decide +kernel
theorem dX19_word__14 : decode cX19_word_ 14 = .ok (.if_icmp .lt 10, 3) := by decide +kernel
def o_X19_word_ : List Cond := [.fieldLink RX19 560 "SsaForgeModel" "thrown" "I", .methodLink RX19 565 yX19_no, .instanceMethod yX19_no, .selects RX19 yX19_no yX19_no, .initialized RX19, .fieldLink RX19 635 "SsaForgeModel" "results" "I"]
def v_X19_word_ : List Cond := .code yX19_word_ cX19_word_ 5 (some .long) :: (o_X19_word_ ++ (wsX190 ++ (v_X19_no ++ [])))
theorem mow_X19_word_ : ∀ w ∈ o_X19_word_, w ∈ v_X19_word_ := fun _ h => List.mem_cons_of_mem _ (List.mem_append_left _ h)
theorem mem_X19_word__0 : ∀ w ∈ wsX190, w ∈ v_X19_word_ := fun _ h => List.mem_cons_of_mem _ (List.mem_append_right _ (List.mem_append_left _ h))
theorem mem_X19_word__1 : ∀ w ∈ v_X19_no, w ∈ v_X19_word_ := fun _ h => List.mem_cons_of_mem _ (List.mem_append_right _ (List.mem_append_right _ (List.mem_append_left _ h)))
set_option maxRecDepth 20000 in
theorem gw_X19_word_ : v_X19_word_.all goodWord = true := by decide +kernel
set_option maxRecDepth 20000 in
theorem g_X19_word__X19_no : GoodIn v_X19_word_ (wsV RX19 565 RX19 yX19_no v_X19_no) := goodIn_app (goodIn_sub (fun w h => mow_X19_word_ w (by revert w h; decide +kernel)) (by decide +kernel)) (goodIn_sub mem_X19_word__1 gw_X19_no)
set_option maxHeartbeats 4000000 in
set_option maxRecDepth 100000 in
theorem c_X19_word_ (l : Launch) (dC : Nat → ClassId) (dI : Nat → Nat → Nat) (h0 : Nat) (q_1 : Nat) (q_12 : Nat) (q_17 : Nat) (q_22 : Nat) (q_24 : Nat) (q_26 : Nat) (q_28 : Nat) (q_29 : Nat) (q_31 : Nat) (q_33 : Nat) (q_35 : Nat) (q_37 : Nat) (q_39 : Nat) (q_41 : Nat) (q_43 : Nat) (q_45 : Nat) (q_47 : Nat) (q_49 : Nat) (q_51 : Nat) (q_53 : Nat) (q_55 : Nat) (q_57 : Nat) (q_59 : Nat) (q_61 : Nat) (q_63 : Nat) (q_65 : Nat) (q_68 : Nat) (q_70 : Nat) (q_72 : Nat) (p0 : Int32) (sz : Nat) : Met l yX19_word_ v_X19_word_ ({ frames := 1, cells := 0, slots := 0, locals := 21 }) (va_Pc [.ref h0, .int p0] (fun U => U.heap.size = sz ∧ va_P (dC, dI) vwP [(h0, .inr (16, [.ref q_1, .ref q_12, .ref q_17, .ref q_22, .ref q_24, .ref q_26, .ref q_28, .ref q_29, .ref q_31, .ref q_33, .ref q_35, .int 0, .ref q_37, .ref q_39, .ref q_41, .ref q_43, .ref q_45, .ref q_47, .ref q_49, .ref q_51, .ref q_53, .ref q_55, .ref q_57, .int 0, .ref q_59, .ref q_61, .ref q_63, .int (-1), .int 0, .int 0, .int 0, .int 0, .ref q_65, .int 0, .ref q_68, .int 0, .int (-1), .int 0, .int 0, .ref q_70, .ref q_72]))] U.heap ∧ va_K (dC, dI) vwP [] U ∧ va_D (fun _ => True) [(h0, .inr (16, [.ref q_1, .ref q_12, .ref q_17, .ref q_22, .ref q_24, .ref q_26, .ref q_28, .ref q_29, .ref q_31, .ref q_33, .ref q_35, .int 0, .ref q_37, .ref q_39, .ref q_41, .ref q_43, .ref q_45, .ref q_47, .ref q_49, .ref q_51, .ref q_53, .ref q_55, .ref q_57, .int 0, .ref q_59, .ref q_61, .ref q_63, .int (-1), .int 0, .int 0, .int 0, .int 0, .ref q_65, .int 0, .ref q_68, .int 0, .int (-1), .int 0, .int 0, .ref q_70, .ref q_72]))])) (va_Ql (fun (r : Int64) (_ : Unit) => kf_word = 0 → r = vf_word) (fun (_ : Unit) (t : State) => ∃ (i_33 : Int32) (i_35 : Int32) (i_36 : Int32) (i_37 : Int32) (q_940 : Nat), (i_33 = kf_word) ∧ va_P (dC, dI) vwP [(h0, .inr (16, [.ref q_1, .ref q_12, .ref q_17, .ref q_22, .ref q_24, .ref q_26, .ref q_28, .ref q_29, .ref q_31, .ref q_33, .ref q_35, .int 0, .ref q_37, .ref q_39, .ref q_41, .ref q_43, .ref q_45, .ref q_47, .ref q_49, .ref q_51, .ref q_53, .ref q_55, .ref q_57, .int 0, .ref q_59, .ref q_61, .ref q_63, .int (-1), .int 0, .int 0, .int 0, .int 0, .ref q_65, .int i_33, .ref q_68, .int i_35, .int i_36, .int i_37, .int 0, .ref q_70, .ref q_940]))] t.heap ∧ va_K (dC, dI) vwP [] t ∧ va_D (va_A [(h0, .inr (16, [.ref q_1, .ref q_12, .ref q_17, .ref q_22, .ref q_24, .ref q_26, .ref q_28, .ref q_29, .ref q_31, .ref q_33, .ref q_35, .int 0, .ref q_37, .ref q_39, .ref q_41, .ref q_43, .ref q_45, .ref q_47, .ref q_49, .ref q_51, .ref q_53, .ref q_55, .ref q_57, .int 0, .ref q_59, .ref q_61, .ref q_63, .int (-1), .int 0, .int 0, .int 0, .int 0, .ref q_65, .int 0, .ref q_68, .int 0, .int (-1), .int 0, .int 0, .ref q_70, .ref q_72]))] sz) [(h0, .inr (16, [.ref q_1, .ref q_12, .ref q_17, .ref q_22, .ref q_24, .ref q_26, .ref q_28, .ref q_29, .ref q_31, .ref q_33, .ref q_35, .int 0, .ref q_37, .ref q_39, .ref q_41, .ref q_43, .ref q_45, .ref q_47, .ref q_49, .ref q_51, .ref q_53, .ref q_55, .ref q_57, .int 0, .ref q_59, .ref q_61, .ref q_63, .int (-1), .int 0, .int 0, .int 0, .int 0, .ref q_65, .int i_33, .ref q_68, .int i_35, .int i_36, .int i_37, .int 0, .ref q_70, .ref q_940]))]) (va_A [(h0, .inr (16, [.ref q_1, .ref q_12, .ref q_17, .ref q_22, .ref q_24, .ref q_26, .ref q_28, .ref q_29, .ref q_31, .ref q_33, .ref q_35, .int 0, .ref q_37, .ref q_39, .ref q_41, .ref q_43, .ref q_45, .ref q_47, .ref q_49, .ref q_51, .ref q_53, .ref q_55, .ref q_57, .int 0, .ref q_59, .ref q_61, .ref q_63, .int (-1), .int 0, .int 0, .int 0, .int 0, .ref q_65, .int 0, .ref q_68, .int 0, .int (-1), .int 0, .int 0, .ref q_70, .ref q_72]))] sz)) 0 0 (va_A [(h0, .inr (16, [.ref q_1, .ref q_12, .ref q_17, .ref q_22, .ref q_24, .ref q_26, .ref q_28, .ref q_29, .ref q_31, .ref q_33, .ref q_35, .int 0, .ref q_37, .ref q_39, .ref q_41, .ref q_43, .ref q_45, .ref q_47, .ref q_49, .ref q_51, .ref q_53, .ref q_55, .ref q_57, .int 0, .ref q_59, .ref q_61, .ref q_63, .int (-1), .int 0, .int 0, .int 0, .int 0, .ref q_65, .int 0, .ref q_68, .int 0, .int (-1), .int 0, .int 0, .ref q_70, .ref q_72]))] sz) := by
  refine Met.ofW (cc := cX19_word_) (maxL := 5) (ret := (some .long)) (by decide) rfl ?_
  intro p e s m args below meth c s₁ B hml hv
  obtain ⟨rfl, hsz, hP, hK, hD0⟩ := hv
  have hx := B.exec
  have hb := B.bytes
  have hr := B.returns
  have hts := atoms_spec (ws := v_X19_word_) B.pre
  have hown : s.vm.findClass RX19 = some m.cls := findClass_of_methodNamed B.named
  have hlocks := B.notSynchronized
  have ow : ∀ {k : Nat} {w : Cond}, o_X19_word_[k]? = some w → w.before ([.ref h0, .int p0] : List Value).toArray s = true := fun h => hts _ (mow_X19_word_ _ (List.mem_of_getElem? h))
  subst hsz
  have hD := hD0.self (sz := s.heap.size)
  generalize hAe : va_A [(h0, .inr (16, [.ref q_1, .ref q_12, .ref q_17, .ref q_22, .ref q_24, .ref q_26, .ref q_28, .ref q_29, .ref q_31, .ref q_33, .ref q_35, .int 0, .ref q_37, .ref q_39, .ref q_41, .ref q_43, .ref q_45, .ref q_47, .ref q_49, .ref q_51, .ref q_53, .ref q_55, .ref q_57, .int 0, .ref q_59, .ref q_61, .ref q_63, .int (-1), .int 0, .int 0, .int 0, .int 0, .ref q_65, .int 0, .ref q_68, .int 0, .int (-1), .int 0, .int 0, .ref q_70, .ref q_72]))] s.heap.size = A at hD ⊢
  have hA : ∀ q : Nat, s.heap.size ≤ q → A q := fun q h => by rw [← hAe]; exact Or.inr h
  have hS : va_S A s.heap s.heap [] := va_S.rf
  have hP : va_P (dC, dI) vwP [(h0, .inr (16, [.ref q_1, .ref q_12, .ref q_17, .ref q_22, .ref q_24, .ref q_26, .ref q_28, .ref q_29, .ref q_31, .ref q_33, .ref q_35, .int 0, .ref q_37, .ref q_39, .ref q_41, .ref q_43, .ref q_45, .ref q_47, .ref q_49, .ref q_51, .ref q_53, .ref q_55, .ref q_57, .int 0, .ref q_59, .ref q_61, .ref q_63, .int (-1), .int 0, .int 0, .int 0, .int 0, .ref q_65, .int 0, .ref q_68, .int 0, .int (-1), .int 0, .int 0, .ref q_70, .ref q_72]))] s.heap := hP
  have hl := lv_entry ([.ref h0, .int p0]) (n := 5) (Nat.le_of_ble_eq_true rfl)
  rw [lg_entry_eq]
  generalize (lg_sl ([.ref h0, .int p0]) ++ List.replicate (5 - (lg_sl ([.ref h0, .int p0])).length) Slot.unset).toArray = ls at hl ⊢
  have hl : lv_has ls 5 [(0, .ref h0), (1, .int p0)] := hl
  obtain ⟨H, hH⟩ : ∃ H, H = s.heap := ⟨_, rfl⟩
  rw [← hH] at hP
  have hS : va_S A s.heap H [] := by rw [hH]; exact hS
  rw [← hH]
  refine lv_aload_n hx hb dX19_word__0 rfl (lv_at hl 0 rfl) ?_
  refine lv_iconst (v := 0) hx hb dX19_word__1 (by decide) ?_
  refine va_put (D := (dC, dI)) (ci := 16) (v := .int 0) (ty := .int) (C := RX19) (T := TX19) (N := 41) hx hb hts mem_X19_word__0 tyX19 tyX19_ok nmX19 hown hK hP hD hS 0 rfl rfl 33 (by decide) (ow (k := 0) rfl) (fun _ h9 => h9) rfl (by decide +kernel) rfl rfl (Nat.le_of_ble_eq_true rfl) dX19_word__2 (fun H locs hP hD hS => ?_)
  have hP : va_P (dC, dI) vwP [(h0, .inr (16, [.ref q_1, .ref q_12, .ref q_17, .ref q_22, .ref q_24, .ref q_26, .ref q_28, .ref q_29, .ref q_31, .ref q_33, .ref q_35, .int 0, .ref q_37, .ref q_39, .ref q_41, .ref q_43, .ref q_45, .ref q_47, .ref q_49, .ref q_51, .ref q_53, .ref q_55, .ref q_57, .int 0, .ref q_59, .ref q_61, .ref q_63, .int (-1), .int 0, .int 0, .int 0, .int 0, .ref q_65, .int 0, .ref q_68, .int 0, .int (-1), .int 0, .int 0, .ref q_70, .ref q_72]))] H := hP
  have hD : va_D A [(h0, .inr (16, [.ref q_1, .ref q_12, .ref q_17, .ref q_22, .ref q_24, .ref q_26, .ref q_28, .ref q_29, .ref q_31, .ref q_33, .ref q_35, .int 0, .ref q_37, .ref q_39, .ref q_41, .ref q_43, .ref q_45, .ref q_47, .ref q_49, .ref q_51, .ref q_53, .ref q_55, .ref q_57, .int 0, .ref q_59, .ref q_61, .ref q_63, .int (-1), .int 0, .int 0, .int 0, .int 0, .ref q_65, .int 0, .ref q_68, .int 0, .int (-1), .int 0, .int 0, .ref q_70, .ref q_72]))] := hD
  refine lv_iload_n hx hb dX19_word__5 rfl (lv_at hl 1 rfl) ?_
  refine lv_if_lt (tgt := 17) hx hb dX19_word__6 (by decide) (fun b6 => ?_) (fun b6 => ?_)
  · refine lv_aload_n hx hb dX19_word__17 rfl (lv_at hl 0 rfl) ?_
    refine lv_iconst (v := 1) hx hb dX19_word__18 (by decide) ?_
    have hPc := hP.sub (ws' := [(h0, .inr (16, [.ref q_1, .ref q_12, .ref q_17, .ref q_22, .ref q_24, .ref q_26, .ref q_28, .ref q_29, .ref q_31, .ref q_33, .ref q_35, .int 0, .ref q_37, .ref q_39, .ref q_41, .ref q_43, .ref q_45, .ref q_47, .ref q_49, .ref q_51, .ref q_53, .ref q_55, .ref q_57, .int 0, .ref q_59, .ref q_61, .ref q_63, .int (-1), .int 0, .int 0, .int 0, .int 0, .ref q_65, .int 0, .ref q_68, .int 0, .int (-1), .int 0, .int 0, .ref q_70, .ref q_72]))]) [0] rfl
    have hDc := hD.sub (ws' := [(h0, .inr (16, [.ref q_1, .ref q_12, .ref q_17, .ref q_22, .ref q_24, .ref q_26, .ref q_28, .ref q_29, .ref q_31, .ref q_33, .ref q_35, .int 0, .ref q_37, .ref q_39, .ref q_41, .ref q_43, .ref q_45, .ref q_47, .ref q_49, .ref q_51, .ref q_53, .ref q_55, .ref q_57, .int 0, .ref q_59, .ref q_61, .ref q_63, .int (-1), .int 0, .int 0, .int 0, .int 0, .ref q_65, .int 0, .ref q_68, .int 0, .int (-1), .int 0, .int 0, .ref q_70, .ref q_72]))]) [0] (by decide) rfl
    have hKc := hK.sub (tys' := []) [] rfl
    have hFc := va_free (wc := [(h0, .inr (16, [.ref q_1, .ref q_12, .ref q_17, .ref q_22, .ref q_24, .ref q_26, .ref q_28, .ref q_29, .ref q_31, .ref q_33, .ref q_35, .int 0, .ref q_37, .ref q_39, .ref q_41, .ref q_43, .ref q_45, .ref q_47, .ref q_49, .ref q_51, .ref q_53, .ref q_55, .ref q_57, .int 0, .ref q_59, .ref q_61, .ref q_63, .int (-1), .int 0, .int 0, .int 0, .int 0, .ref q_65, .int 0, .ref q_68, .int 0, .int (-1), .int 0, .int 0, .ref q_70, .ref q_72]))]) hD hS hA [0] rfl
    refine va_calli (va_runV (As := [.int 1]) (rest := []) ⟨hx, hb, hml, hown, hts⟩ (c_X19_no l dC dI h0 q_1 q_12 q_17 q_22 q_24 q_26 q_28 q_29 q_31 q_33 q_35 q_37 q_39 q_41 q_43 q_45 q_47 q_49 q_51 q_53 q_55 q_57 q_59 q_61 q_63 q_65 q_68 q_70 q_72 1 H.size) (cwV 1 hts g_X19_word__X19_no rfl rfl rfl (by decide +kernel) ⟨(Nat.le_of_ble_eq_true rfl), (Nat.le_of_ble_eq_true rfl)⟩) ⟨fun a U g mk q => by obtain ⟨q0, q1, qP, qK, qD⟩ := q; exact ⟨q0, q1, qP, va_K.moved (u := U) (U := U.calling g mk a) (Vm.Alike.refl U.vm) qK, qD⟩, va_recv hKc hPc (ci := 16) (q0 := 0) rfl rfl, fun U hU hW => ⟨rfl, by rw [hU], by rw [hU]; exact hPc, va_K.moved hW.alike hKc, hDc.weaken (fun _ _ _ _ => trivial)⟩⟩ rfl rfl hl.1 rfl (lv_room (Nat.le_of_ble_eq_true rfl)) dX19_word__19 ⟨(Nat.le_of_ble_eq_true rfl), (Nat.le_of_ble_eq_true rfl)⟩) hS (fun q _ h => hFc q h) hFc (fun r_2001 u t H1 locs ht hvm hw hB hz1 hk1 hS => ?_)
    obtain ⟨hP1, hK1, hD1⟩ := hB
    rw [ht] at hP1
    have hK1 := va_K.moved hvm.symm hK1
    obtain ⟨hP, hD⟩ := va_join (wr := []) (w1 := [(h0, .inr (16, [.ref q_1, .ref q_12, .ref q_17, .ref q_22, .ref q_24, .ref q_26, .ref q_28, .ref q_29, .ref q_31, .ref q_33, .ref q_35, .int 0, .ref q_37, .ref q_39, .ref q_41, .ref q_43, .ref q_45, .ref q_47, .ref q_49, .ref q_51, .ref q_53, .ref q_55, .ref q_57, .int 0, .ref q_59, .ref q_61, .ref q_63, .int (-1), .int 0, .int 0, .int 0, .int 0, .ref q_65, .int 1, .ref q_68, .int 0, .int (-1), .int 0, .int 0, .ref q_70, .ref q_72]))]) hP hD [0] [] rfl rfl (by decide) (by decide) hk1 hFc hP1 hD1
    have hK := (hK.sub (tys' := []) [] rfl).app hK1
    generalize H1 = H at hP hS ⊢
    have hP : va_P (dC, dI) vwP [(h0, .inr (16, [.ref q_1, .ref q_12, .ref q_17, .ref q_22, .ref q_24, .ref q_26, .ref q_28, .ref q_29, .ref q_31, .ref q_33, .ref q_35, .int 0, .ref q_37, .ref q_39, .ref q_41, .ref q_43, .ref q_45, .ref q_47, .ref q_49, .ref q_51, .ref q_53, .ref q_55, .ref q_57, .int 0, .ref q_59, .ref q_61, .ref q_63, .int (-1), .int 0, .int 0, .int 0, .int 0, .ref q_65, .int 1, .ref q_68, .int 0, .int (-1), .int 0, .int 0, .ref q_70, .ref q_72]))] H := hP
    have hD : va_D A [(h0, .inr (16, [.ref q_1, .ref q_12, .ref q_17, .ref q_22, .ref q_24, .ref q_26, .ref q_28, .ref q_29, .ref q_31, .ref q_33, .ref q_35, .int 0, .ref q_37, .ref q_39, .ref q_41, .ref q_43, .ref q_45, .ref q_47, .ref q_49, .ref q_51, .ref q_53, .ref q_55, .ref q_57, .int 0, .ref q_59, .ref q_61, .ref q_63, .int (-1), .int 0, .int 0, .int 0, .int 0, .ref q_65, .int 1, .ref q_68, .int 0, .int (-1), .int 0, .int 0, .ref q_70, .ref q_72]))] := hD
    have hK : va_K (dC, dI) vwP [] s := hK
    refine W.widen (k := 0) (n := 0) (Nat.le_of_ble_eq_true rfl) (Nat.le_of_ble_eq_true rfl) ?_
    obtain rfl : r_2001 = 0 := hw
    refine lv_i2l hx hb dX19_word__22 rfl ?_
    have zb6 : p0.toInt < 0 := z_lt b6
    refine W.widen (k := 0) (n := 0) (Nat.le_of_ble_eq_true rfl) (Nat.le_of_ble_eq_true rfl) ?_
    exact W.lret (v := ((0 : Int32).toInt64)) hx hb hr (fun t ht hW => ⟨⟨((0 : Int32).toInt64), (), rfl, (fun h9 => absurd ((show kf_word = 1 by unfold kf_word; first | rfl | (split <;> first | rfl | (exfalso; omega))).symm.trans h9) (by decide)), 1, 0, (-1), 0, q_72, (show kf_word = 1 by unfold kf_word; first | rfl | (split <;> first | rfl | (exfalso; omega))).symm, by rw [ht]; exact hP, va_K.moved hW.alike hK, hD⟩, hS.F ht⟩) hS.2.2 dX19_word__23
  · refine lv_iload_n hx hb dX19_word__9 rfl (lv_at hl 1 rfl) ?_
    refine lv_aload_n hx hb dX19_word__10 rfl (lv_at hl 0 rfl) ?_
    refine va_get (D := (dC, dI)) (ci := 16) (v := .int 0) (C := RX19) (T := TX19) (N := 41) hx hb hts mem_X19_word__0 hown hK hP 0 rfl rfl 38 (by decide) (ow (k := 5) rfl) (fun _ h9 => h9) rfl dX19_word__11 ?_
    refine lv_icmp_lt (tgt := 24) hx hb dX19_word__14 (by decide) (fun h9 => absurd h9 b6) (fun _ => ?_)
    refine lv_aload_n hx hb dX19_word__17 rfl (lv_at hl 0 rfl) ?_
    refine lv_iconst (v := 1) hx hb dX19_word__18 (by decide) ?_
    have hPc := hP.sub (ws' := [(h0, .inr (16, [.ref q_1, .ref q_12, .ref q_17, .ref q_22, .ref q_24, .ref q_26, .ref q_28, .ref q_29, .ref q_31, .ref q_33, .ref q_35, .int 0, .ref q_37, .ref q_39, .ref q_41, .ref q_43, .ref q_45, .ref q_47, .ref q_49, .ref q_51, .ref q_53, .ref q_55, .ref q_57, .int 0, .ref q_59, .ref q_61, .ref q_63, .int (-1), .int 0, .int 0, .int 0, .int 0, .ref q_65, .int 0, .ref q_68, .int 0, .int (-1), .int 0, .int 0, .ref q_70, .ref q_72]))]) [0] rfl
    have hDc := hD.sub (ws' := [(h0, .inr (16, [.ref q_1, .ref q_12, .ref q_17, .ref q_22, .ref q_24, .ref q_26, .ref q_28, .ref q_29, .ref q_31, .ref q_33, .ref q_35, .int 0, .ref q_37, .ref q_39, .ref q_41, .ref q_43, .ref q_45, .ref q_47, .ref q_49, .ref q_51, .ref q_53, .ref q_55, .ref q_57, .int 0, .ref q_59, .ref q_61, .ref q_63, .int (-1), .int 0, .int 0, .int 0, .int 0, .ref q_65, .int 0, .ref q_68, .int 0, .int (-1), .int 0, .int 0, .ref q_70, .ref q_72]))]) [0] (by decide) rfl
    have hKc := hK.sub (tys' := []) [] rfl
    have hFc := va_free (wc := [(h0, .inr (16, [.ref q_1, .ref q_12, .ref q_17, .ref q_22, .ref q_24, .ref q_26, .ref q_28, .ref q_29, .ref q_31, .ref q_33, .ref q_35, .int 0, .ref q_37, .ref q_39, .ref q_41, .ref q_43, .ref q_45, .ref q_47, .ref q_49, .ref q_51, .ref q_53, .ref q_55, .ref q_57, .int 0, .ref q_59, .ref q_61, .ref q_63, .int (-1), .int 0, .int 0, .int 0, .int 0, .ref q_65, .int 0, .ref q_68, .int 0, .int (-1), .int 0, .int 0, .ref q_70, .ref q_72]))]) hD hS hA [0] rfl
    refine va_calli (va_runV (As := [.int 1]) (rest := []) ⟨hx, hb, hml, hown, hts⟩ (c_X19_no l dC dI h0 q_1 q_12 q_17 q_22 q_24 q_26 q_28 q_29 q_31 q_33 q_35 q_37 q_39 q_41 q_43 q_45 q_47 q_49 q_51 q_53 q_55 q_57 q_59 q_61 q_63 q_65 q_68 q_70 q_72 1 H.size) (cwV 1 hts g_X19_word__X19_no rfl rfl rfl (by decide +kernel) ⟨(Nat.le_of_ble_eq_true rfl), (Nat.le_of_ble_eq_true rfl)⟩) ⟨fun a U g mk q => by obtain ⟨q0, q1, qP, qK, qD⟩ := q; exact ⟨q0, q1, qP, va_K.moved (u := U) (U := U.calling g mk a) (Vm.Alike.refl U.vm) qK, qD⟩, va_recv hKc hPc (ci := 16) (q0 := 0) rfl rfl, fun U hU hW => ⟨rfl, by rw [hU], by rw [hU]; exact hPc, va_K.moved hW.alike hKc, hDc.weaken (fun _ _ _ _ => trivial)⟩⟩ rfl rfl hl.1 rfl (lv_room (Nat.le_of_ble_eq_true rfl)) dX19_word__19 ⟨(Nat.le_of_ble_eq_true rfl), (Nat.le_of_ble_eq_true rfl)⟩) hS (fun q _ h => hFc q h) hFc (fun r_2002 u t H1 locs ht hvm hw hB hz1 hk1 hS => ?_)
    obtain ⟨hP1, hK1, hD1⟩ := hB
    rw [ht] at hP1
    have hK1 := va_K.moved hvm.symm hK1
    obtain ⟨hP, hD⟩ := va_join (wr := []) (w1 := [(h0, .inr (16, [.ref q_1, .ref q_12, .ref q_17, .ref q_22, .ref q_24, .ref q_26, .ref q_28, .ref q_29, .ref q_31, .ref q_33, .ref q_35, .int 0, .ref q_37, .ref q_39, .ref q_41, .ref q_43, .ref q_45, .ref q_47, .ref q_49, .ref q_51, .ref q_53, .ref q_55, .ref q_57, .int 0, .ref q_59, .ref q_61, .ref q_63, .int (-1), .int 0, .int 0, .int 0, .int 0, .ref q_65, .int 1, .ref q_68, .int 0, .int (-1), .int 0, .int 0, .ref q_70, .ref q_72]))]) hP hD [0] [] rfl rfl (by decide) (by decide) hk1 hFc hP1 hD1
    have hK := (hK.sub (tys' := []) [] rfl).app hK1
    generalize H1 = H at hP hS ⊢
    have hP : va_P (dC, dI) vwP [(h0, .inr (16, [.ref q_1, .ref q_12, .ref q_17, .ref q_22, .ref q_24, .ref q_26, .ref q_28, .ref q_29, .ref q_31, .ref q_33, .ref q_35, .int 0, .ref q_37, .ref q_39, .ref q_41, .ref q_43, .ref q_45, .ref q_47, .ref q_49, .ref q_51, .ref q_53, .ref q_55, .ref q_57, .int 0, .ref q_59, .ref q_61, .ref q_63, .int (-1), .int 0, .int 0, .int 0, .int 0, .ref q_65, .int 1, .ref q_68, .int 0, .int (-1), .int 0, .int 0, .ref q_70, .ref q_72]))] H := hP
    have hD : va_D A [(h0, .inr (16, [.ref q_1, .ref q_12, .ref q_17, .ref q_22, .ref q_24, .ref q_26, .ref q_28, .ref q_29, .ref q_31, .ref q_33, .ref q_35, .int 0, .ref q_37, .ref q_39, .ref q_41, .ref q_43, .ref q_45, .ref q_47, .ref q_49, .ref q_51, .ref q_53, .ref q_55, .ref q_57, .int 0, .ref q_59, .ref q_61, .ref q_63, .int (-1), .int 0, .int 0, .int 0, .int 0, .ref q_65, .int 1, .ref q_68, .int 0, .int (-1), .int 0, .int 0, .ref q_70, .ref q_72]))] := hD
    have hK : va_K (dC, dI) vwP [] s := hK
    refine W.widen (k := 0) (n := 0) (Nat.le_of_ble_eq_true rfl) (Nat.le_of_ble_eq_true rfl) ?_
    obtain rfl : r_2002 = 0 := hw
    refine lv_i2l hx hb dX19_word__22 rfl ?_
    have zb6 : 0 ≤ p0.toInt := z_nlt b6
    refine W.widen (k := 0) (n := 0) (Nat.le_of_ble_eq_true rfl) (Nat.le_of_ble_eq_true rfl) ?_
    exact W.lret (v := ((0 : Int32).toInt64)) hx hb hr (fun t ht hW => ⟨⟨((0 : Int32).toInt64), (), rfl, (fun h9 => absurd ((show kf_word = 1 by unfold kf_word; first | rfl | (split <;> first | rfl | (exfalso; omega))).symm.trans h9) (by decide)), 1, 0, (-1), 0, q_72, (show kf_word = 1 by unfold kf_word; first | rfl | (split <;> first | rfl | (exfalso; omega))).symm, by rw [ht]; exact hP, va_K.moved hW.alike hK, hD⟩, hS.F ht⟩) hS.2.2 dX19_word__23
theorem dX19_thrown_0 : decode cX19_thrown 0 = .ok (.aload_n 0, 1) := by decide +kernel
theorem dX19_thrown_1 : decode cX19_thrown 1 = .ok (.getfield 560, 3) := by decide +kernel
theorem dX19_thrown_4 : decode cX19_thrown 4 = .ok (.ireturn, 1) := by decide +kernel
def o_X19_thrown : List Cond := [.fieldLink RX19 560 "SsaForgeModel" "thrown" "I"]
def v_X19_thrown : List Cond := .code yX19_thrown cX19_thrown 1 (some .int) :: (o_X19_thrown ++ (wsX190 ++ []))
theorem mow_X19_thrown : ∀ w ∈ o_X19_thrown, w ∈ v_X19_thrown := fun _ h => List.mem_cons_of_mem _ (List.mem_append_left _ h)
theorem mem_X19_thrown_0 : ∀ w ∈ wsX190, w ∈ v_X19_thrown := fun _ h => List.mem_cons_of_mem _ (List.mem_append_right _ (List.mem_append_left _ h))
set_option maxRecDepth 20000 in
theorem gw_X19_thrown : v_X19_thrown.all goodWord = true := by decide +kernel
set_option maxHeartbeats 4000000 in
set_option maxRecDepth 100000 in
theorem c_X19_thrown (l : Launch) (dC : Nat → ClassId) (dI : Nat → Nat → Nat) (h0 : Nat) (q_1 : Nat) (q_12 : Nat) (q_17 : Nat) (q_22 : Nat) (q_24 : Nat) (q_26 : Nat) (q_28 : Nat) (q_29 : Nat) (q_31 : Nat) (q_33 : Nat) (q_35 : Nat) (q_37 : Nat) (q_39 : Nat) (q_41 : Nat) (q_43 : Nat) (q_45 : Nat) (q_47 : Nat) (q_49 : Nat) (q_51 : Nat) (q_53 : Nat) (q_55 : Nat) (q_57 : Nat) (q_59 : Nat) (q_61 : Nat) (q_63 : Nat) (q_65 : Nat) (i_33 : Int32) (q_68 : Nat) (i_35 : Int32) (i_36 : Int32) (i_37 : Int32) (q_70 : Nat) (q_940 : Nat) (sz : Nat) : Met l yX19_thrown v_X19_thrown ({ frames := 0, cells := 0, slots := 0, locals := 0 }) (va_Pc [.ref h0] (fun U => U.heap.size = sz ∧ va_P (dC, dI) vwP [(h0, .inr (16, [.ref q_1, .ref q_12, .ref q_17, .ref q_22, .ref q_24, .ref q_26, .ref q_28, .ref q_29, .ref q_31, .ref q_33, .ref q_35, .int 0, .ref q_37, .ref q_39, .ref q_41, .ref q_43, .ref q_45, .ref q_47, .ref q_49, .ref q_51, .ref q_53, .ref q_55, .ref q_57, .int 0, .ref q_59, .ref q_61, .ref q_63, .int (-1), .int 0, .int 0, .int 0, .int 0, .ref q_65, .int i_33, .ref q_68, .int i_35, .int i_36, .int i_37, .int 0, .ref q_70, .ref q_940]))] U.heap ∧ va_K (dC, dI) vwP [] U ∧ va_D (fun _ => True) [(h0, .inr (16, [.ref q_1, .ref q_12, .ref q_17, .ref q_22, .ref q_24, .ref q_26, .ref q_28, .ref q_29, .ref q_31, .ref q_33, .ref q_35, .int 0, .ref q_37, .ref q_39, .ref q_41, .ref q_43, .ref q_45, .ref q_47, .ref q_49, .ref q_51, .ref q_53, .ref q_55, .ref q_57, .int 0, .ref q_59, .ref q_61, .ref q_63, .int (-1), .int 0, .int 0, .int 0, .int 0, .ref q_65, .int i_33, .ref q_68, .int i_35, .int i_36, .int i_37, .int 0, .ref q_70, .ref q_940]))])) (va_Qi (fun (r : Int32) (_ : Unit) => r = i_33) (fun (_ : Unit) (t : State) => va_P (dC, dI) vwP [] t.heap ∧ va_K (dC, dI) vwP [] t ∧ va_D (va_A [(h0, .inr (16, [.ref q_1, .ref q_12, .ref q_17, .ref q_22, .ref q_24, .ref q_26, .ref q_28, .ref q_29, .ref q_31, .ref q_33, .ref q_35, .int 0, .ref q_37, .ref q_39, .ref q_41, .ref q_43, .ref q_45, .ref q_47, .ref q_49, .ref q_51, .ref q_53, .ref q_55, .ref q_57, .int 0, .ref q_59, .ref q_61, .ref q_63, .int (-1), .int 0, .int 0, .int 0, .int 0, .ref q_65, .int i_33, .ref q_68, .int i_35, .int i_36, .int i_37, .int 0, .ref q_70, .ref q_940]))] sz) []) (va_A [(h0, .inr (16, [.ref q_1, .ref q_12, .ref q_17, .ref q_22, .ref q_24, .ref q_26, .ref q_28, .ref q_29, .ref q_31, .ref q_33, .ref q_35, .int 0, .ref q_37, .ref q_39, .ref q_41, .ref q_43, .ref q_45, .ref q_47, .ref q_49, .ref q_51, .ref q_53, .ref q_55, .ref q_57, .int 0, .ref q_59, .ref q_61, .ref q_63, .int (-1), .int 0, .int 0, .int 0, .int 0, .ref q_65, .int i_33, .ref q_68, .int i_35, .int i_36, .int i_37, .int 0, .ref q_70, .ref q_940]))] sz)) 0 0 (va_A [(h0, .inr (16, [.ref q_1, .ref q_12, .ref q_17, .ref q_22, .ref q_24, .ref q_26, .ref q_28, .ref q_29, .ref q_31, .ref q_33, .ref q_35, .int 0, .ref q_37, .ref q_39, .ref q_41, .ref q_43, .ref q_45, .ref q_47, .ref q_49, .ref q_51, .ref q_53, .ref q_55, .ref q_57, .int 0, .ref q_59, .ref q_61, .ref q_63, .int (-1), .int 0, .int 0, .int 0, .int 0, .ref q_65, .int i_33, .ref q_68, .int i_35, .int i_36, .int i_37, .int 0, .ref q_70, .ref q_940]))] sz) := by
  refine Met.ofW (cc := cX19_thrown) (maxL := 1) (ret := (some .int)) (by decide) rfl ?_
  intro p e s m args below meth c s₁ B hml hv
  obtain ⟨rfl, hsz, hP, hK, hD0⟩ := hv
  have hx := B.exec
  have hb := B.bytes
  have hr := B.returns
  have hts := atoms_spec (ws := v_X19_thrown) B.pre
  have hown : s.vm.findClass RX19 = some m.cls := findClass_of_methodNamed B.named
  have hlocks := B.notSynchronized
  have ow : ∀ {k : Nat} {w : Cond}, o_X19_thrown[k]? = some w → w.before ([.ref h0] : List Value).toArray s = true := fun h => hts _ (mow_X19_thrown _ (List.mem_of_getElem? h))
  subst hsz
  have hD := hD0.self (sz := s.heap.size)
  generalize hAe : va_A [(h0, .inr (16, [.ref q_1, .ref q_12, .ref q_17, .ref q_22, .ref q_24, .ref q_26, .ref q_28, .ref q_29, .ref q_31, .ref q_33, .ref q_35, .int 0, .ref q_37, .ref q_39, .ref q_41, .ref q_43, .ref q_45, .ref q_47, .ref q_49, .ref q_51, .ref q_53, .ref q_55, .ref q_57, .int 0, .ref q_59, .ref q_61, .ref q_63, .int (-1), .int 0, .int 0, .int 0, .int 0, .ref q_65, .int i_33, .ref q_68, .int i_35, .int i_36, .int i_37, .int 0, .ref q_70, .ref q_940]))] s.heap.size = A at hD ⊢
  have hA : ∀ q : Nat, s.heap.size ≤ q → A q := fun q h => by rw [← hAe]; exact Or.inr h
  have hS : va_S A s.heap s.heap [] := va_S.rf
  have hP : va_P (dC, dI) vwP [(h0, .inr (16, [.ref q_1, .ref q_12, .ref q_17, .ref q_22, .ref q_24, .ref q_26, .ref q_28, .ref q_29, .ref q_31, .ref q_33, .ref q_35, .int 0, .ref q_37, .ref q_39, .ref q_41, .ref q_43, .ref q_45, .ref q_47, .ref q_49, .ref q_51, .ref q_53, .ref q_55, .ref q_57, .int 0, .ref q_59, .ref q_61, .ref q_63, .int (-1), .int 0, .int 0, .int 0, .int 0, .ref q_65, .int i_33, .ref q_68, .int i_35, .int i_36, .int i_37, .int 0, .ref q_70, .ref q_940]))] s.heap := hP
  have hl := lv_entry ([.ref h0]) (n := 1) (Nat.le_of_ble_eq_true rfl)
  rw [lg_entry_eq]
  generalize (lg_sl ([.ref h0]) ++ List.replicate (1 - (lg_sl ([.ref h0])).length) Slot.unset).toArray = ls at hl ⊢
  have hl : lv_has ls 1 [(0, .ref h0)] := hl
  obtain ⟨H, hH⟩ : ∃ H, H = s.heap := ⟨_, rfl⟩
  rw [← hH] at hP
  have hS : va_S A s.heap H [] := by rw [hH]; exact hS
  rw [← hH]
  refine lv_aload_n hx hb dX19_thrown_0 rfl (lv_at hl 0 rfl) ?_
  refine va_get (D := (dC, dI)) (ci := 16) (v := .int i_33) (C := RX19) (T := TX19) (N := 41) hx hb hts mem_X19_thrown_0 hown hK hP 0 rfl rfl 33 (by decide) (ow (k := 0) rfl) (fun _ h9 => h9) rfl dX19_thrown_1 ?_
  have hP := hP.sub (ws' := []) [] rfl
  have hD := hD.sub (ws' := []) [] (by decide) rfl
  refine W.widen (k := 0) (n := 0) (Nat.le_of_ble_eq_true rfl) (Nat.le_of_ble_eq_true rfl) ?_
  exact W.iret (v := i_33) hx hb hr (fun t ht hW => ⟨⟨i_33, (), rfl, rfl, by rw [ht]; exact hP, va_K.moved hW.alike hK, hD⟩, hS.F ht⟩) hS.2.2 dX19_thrown_4
end
section
theorem dX19_input_0 : decode cX19_input 0 = .ok (.aload_n 0, 1) := by decide +kernel
theorem dX19_input_1 : decode cX19_input 1 = .ok (.iconst 0, 1) := by decide +kernel
theorem dX19_input_2 : decode cX19_input 2 = .ok (.putfield 560, 3) := by decide +kernel
theorem dX19_input_5 : decode cX19_input 5 = .ok (.aload_n 0, 1) := by decide +kernel
theorem dX19_input_6 : decode cX19_input 6 = .ok (.aload_n 0, 1) := by decide +kernel
theorem dX19_input_7 : decode cX19_input 7 = .ok (.getfield 563, 3) := by decide +kernel
theorem dX19_input_10 : decode cX19_input 10 = .ok (.iconst 4, 1) := by decide +kernel
theorem dX19_input_11 : decode cX19_input 11 = .ok (.idiv, 1) := by decide +kernel
theorem dX19_input_12 : decode cX19_input 12 = .ok (.newarray .int, 2) := by decide +kernel
theorem dX19_input_14 : decode cX19_input 14 = .ok (.putfield 483, 3) := by decide +kernel
theorem dX19_input_17 : decode cX19_input 17 = .ok (.iconst 0, 1) := by decide +kernel
theorem dX19_input_18 : decode cX19_input 18 = .ok (.istore_n 1, 1) := by decide +kernel
theorem dX19_input_19 : decode cX19_input 19 = .ok (.iload_n 1, 1) := by decide +kernel
theorem dX19_input_20 : decode cX19_input 20 = .ok (.aload_n 0, 1) := by decide +kernel
theorem dX19_input_21 : decode cX19_input 21 = .ok (.getfield 483, 3) := by decide +kernel
theorem dX19_input_24 : decode cX19_input 24 = .ok (.arraylength, 1) := by decide +kernel
theorem dX19_input_25 : decode cX19_input 25 = .ok (.if_icmp .ge 52, 3) := by decide +kernel
theorem dX19_input_77 : decode cX19_input 77 = .ok (.aload_n 0, 1) := by decide +kernel
theorem dX19_input_78 : decode cX19_input 78 = .ok (.iconst 0, 1) := by decide +kernel
theorem dX19_input_79 : decode cX19_input 79 = .ok (.putfield 563, 3) := by decide +kernel
theorem dX19_input_82 : decode cX19_input 82 = .ok (.aload_n 0, 1) := by decide +kernel
theorem dX19_input_83 : decode cX19_input 83 = .ok (.getfield 483, 3) := by decide +kernel
theorem dX19_input_86 : decode cX19_input 86 = .ok (.arraylength, 1) := by decide +kernel
theorem dX19_input_87 : decode cX19_input 87 = .ok (.ireturn, 1) := by decide +kernel
def o_X19_input : List Cond := [.fieldLink RX19 560 "SsaForgeModel" "thrown" "I", .fieldLink RX19 563 "SsaForgeModel" "size" "I", .arrayClass .int, .fieldLink RX19 483 "SsaForgeModel" "input" "[I"]
def v_X19_input : List Cond := .code yX19_input cX19_input 3 (some .int) :: (o_X19_input ++ (wsX190 ++ []))
theorem mow_X19_input : ∀ w ∈ o_X19_input, w ∈ v_X19_input := fun _ h => List.mem_cons_of_mem _ (List.mem_append_left _ h)
theorem mem_X19_input_0 : ∀ w ∈ wsX190, w ∈ v_X19_input := fun _ h => List.mem_cons_of_mem _ (List.mem_append_right _ (List.mem_append_left _ h))
set_option maxRecDepth 20000 in
theorem gw_X19_input : v_X19_input.all goodWord = true := by decide +kernel
set_option maxHeartbeats 4000000 in
set_option maxRecDepth 100000 in
theorem c_X19_input (l : Launch) (dC : Nat → ClassId) (dI : Nat → Nat → Nat) (h0 : Nat) (q_1 : Nat) (q_12 : Nat) (q_17 : Nat) (q_22 : Nat) (q_24 : Nat) (q_26 : Nat) (q_28 : Nat) (q_29 : Nat) (q_31 : Nat) (q_33 : Nat) (q_35 : Nat) (q_37 : Nat) (q_39 : Nat) (q_41 : Nat) (q_43 : Nat) (q_45 : Nat) (q_47 : Nat) (q_49 : Nat) (q_51 : Nat) (q_53 : Nat) (q_55 : Nat) (q_57 : Nat) (q_59 : Nat) (q_61 : Nat) (q_63 : Nat) (q_65 : Nat) (q_68 : Nat) (q_70 : Nat) (q_72 : Nat) (sz : Nat) : Met l yX19_input v_X19_input ({ frames := 0, cells := 1, slots := 0, locals := 0 }) (va_Pc [.ref h0] (fun U => U.heap.size = sz ∧ va_P (dC, dI) vwP [(h0, .inr (16, [.ref q_1, .ref q_12, .ref q_17, .ref q_22, .ref q_24, .ref q_26, .ref q_28, .ref q_29, .ref q_31, .ref q_33, .ref q_35, .int 0, .ref q_37, .ref q_39, .ref q_41, .ref q_43, .ref q_45, .ref q_47, .ref q_49, .ref q_51, .ref q_53, .ref q_55, .ref q_57, .int 0, .ref q_59, .ref q_61, .ref q_63, .int (-1), .int 0, .int 0, .int 0, .int 0, .ref q_65, .int 0, .ref q_68, .int 0, .int (-1), .int 0, .int 0, .ref q_70, .ref q_72]))] U.heap ∧ va_K (dC, dI) vwP [] U ∧ va_D (fun _ => True) [(h0, .inr (16, [.ref q_1, .ref q_12, .ref q_17, .ref q_22, .ref q_24, .ref q_26, .ref q_28, .ref q_29, .ref q_31, .ref q_33, .ref q_35, .int 0, .ref q_37, .ref q_39, .ref q_41, .ref q_43, .ref q_45, .ref q_47, .ref q_49, .ref q_51, .ref q_53, .ref q_55, .ref q_57, .int 0, .ref q_59, .ref q_61, .ref q_63, .int (-1), .int 0, .int 0, .int 0, .int 0, .ref q_65, .int 0, .ref q_68, .int 0, .int (-1), .int 0, .int 0, .ref q_70, .ref q_72]))])) (va_Qi (fun (r : Int32) (_ : Unit) => r = 0) (fun (_ : Unit) (t : State) => va_P (dC, dI) vwP [] t.heap ∧ va_K (dC, dI) vwP [] t ∧ va_D (va_A [(h0, .inr (16, [.ref q_1, .ref q_12, .ref q_17, .ref q_22, .ref q_24, .ref q_26, .ref q_28, .ref q_29, .ref q_31, .ref q_33, .ref q_35, .int 0, .ref q_37, .ref q_39, .ref q_41, .ref q_43, .ref q_45, .ref q_47, .ref q_49, .ref q_51, .ref q_53, .ref q_55, .ref q_57, .int 0, .ref q_59, .ref q_61, .ref q_63, .int (-1), .int 0, .int 0, .int 0, .int 0, .ref q_65, .int 0, .ref q_68, .int 0, .int (-1), .int 0, .int 0, .ref q_70, .ref q_72]))] sz) []) (va_A [(h0, .inr (16, [.ref q_1, .ref q_12, .ref q_17, .ref q_22, .ref q_24, .ref q_26, .ref q_28, .ref q_29, .ref q_31, .ref q_33, .ref q_35, .int 0, .ref q_37, .ref q_39, .ref q_41, .ref q_43, .ref q_45, .ref q_47, .ref q_49, .ref q_51, .ref q_53, .ref q_55, .ref q_57, .int 0, .ref q_59, .ref q_61, .ref q_63, .int (-1), .int 0, .int 0, .int 0, .int 0, .ref q_65, .int 0, .ref q_68, .int 0, .int (-1), .int 0, .int 0, .ref q_70, .ref q_72]))] sz)) 1 0 (va_A [(h0, .inr (16, [.ref q_1, .ref q_12, .ref q_17, .ref q_22, .ref q_24, .ref q_26, .ref q_28, .ref q_29, .ref q_31, .ref q_33, .ref q_35, .int 0, .ref q_37, .ref q_39, .ref q_41, .ref q_43, .ref q_45, .ref q_47, .ref q_49, .ref q_51, .ref q_53, .ref q_55, .ref q_57, .int 0, .ref q_59, .ref q_61, .ref q_63, .int (-1), .int 0, .int 0, .int 0, .int 0, .ref q_65, .int 0, .ref q_68, .int 0, .int (-1), .int 0, .int 0, .ref q_70, .ref q_72]))] sz) := by
  refine Met.ofW (cc := cX19_input) (maxL := 3) (ret := (some .int)) (by decide) rfl ?_
  intro p e s m args below meth c s₁ B hml hv
  obtain ⟨rfl, hsz, hP, hK, hD0⟩ := hv
  have hx := B.exec
  have hb := B.bytes
  have hr := B.returns
  have hts := atoms_spec (ws := v_X19_input) B.pre
  have hown : s.vm.findClass RX19 = some m.cls := findClass_of_methodNamed B.named
  have hlocks := B.notSynchronized
  have ow : ∀ {k : Nat} {w : Cond}, o_X19_input[k]? = some w → w.before ([.ref h0] : List Value).toArray s = true := fun h => hts _ (mow_X19_input _ (List.mem_of_getElem? h))
  subst hsz
  have hD := hD0.self (sz := s.heap.size)
  generalize hAe : va_A [(h0, .inr (16, [.ref q_1, .ref q_12, .ref q_17, .ref q_22, .ref q_24, .ref q_26, .ref q_28, .ref q_29, .ref q_31, .ref q_33, .ref q_35, .int 0, .ref q_37, .ref q_39, .ref q_41, .ref q_43, .ref q_45, .ref q_47, .ref q_49, .ref q_51, .ref q_53, .ref q_55, .ref q_57, .int 0, .ref q_59, .ref q_61, .ref q_63, .int (-1), .int 0, .int 0, .int 0, .int 0, .ref q_65, .int 0, .ref q_68, .int 0, .int (-1), .int 0, .int 0, .ref q_70, .ref q_72]))] s.heap.size = A at hD ⊢
  have hA : ∀ q : Nat, s.heap.size ≤ q → A q := fun q h => by rw [← hAe]; exact Or.inr h
  have hS : va_S A s.heap s.heap [] := va_S.rf
  have hP : va_P (dC, dI) vwP [(h0, .inr (16, [.ref q_1, .ref q_12, .ref q_17, .ref q_22, .ref q_24, .ref q_26, .ref q_28, .ref q_29, .ref q_31, .ref q_33, .ref q_35, .int 0, .ref q_37, .ref q_39, .ref q_41, .ref q_43, .ref q_45, .ref q_47, .ref q_49, .ref q_51, .ref q_53, .ref q_55, .ref q_57, .int 0, .ref q_59, .ref q_61, .ref q_63, .int (-1), .int 0, .int 0, .int 0, .int 0, .ref q_65, .int 0, .ref q_68, .int 0, .int (-1), .int 0, .int 0, .ref q_70, .ref q_72]))] s.heap := hP
  have hl := lv_entry ([.ref h0]) (n := 3) (Nat.le_of_ble_eq_true rfl)
  rw [lg_entry_eq]
  generalize (lg_sl ([.ref h0]) ++ List.replicate (3 - (lg_sl ([.ref h0])).length) Slot.unset).toArray = ls at hl ⊢
  have hl : lv_has ls 3 [(0, .ref h0)] := hl
  obtain ⟨H, hH⟩ : ∃ H, H = s.heap := ⟨_, rfl⟩
  rw [← hH] at hP
  have hS : va_S A s.heap H [] := by rw [hH]; exact hS
  rw [← hH]
  refine lv_aload_n hx hb dX19_input_0 rfl (lv_at hl 0 rfl) ?_
  refine lv_iconst (v := 0) hx hb dX19_input_1 (by decide) ?_
  refine va_put (D := (dC, dI)) (ci := 16) (v := .int 0) (ty := .int) (C := RX19) (T := TX19) (N := 41) hx hb hts mem_X19_input_0 tyX19 tyX19_ok nmX19 hown hK hP hD hS 0 rfl rfl 33 (by decide) (ow (k := 0) rfl) (fun _ h9 => h9) rfl (by decide +kernel) rfl rfl (Nat.le_of_ble_eq_true rfl) dX19_input_2 (fun H locs hP hD hS => ?_)
  have hP : va_P (dC, dI) vwP [(h0, .inr (16, [.ref q_1, .ref q_12, .ref q_17, .ref q_22, .ref q_24, .ref q_26, .ref q_28, .ref q_29, .ref q_31, .ref q_33, .ref q_35, .int 0, .ref q_37, .ref q_39, .ref q_41, .ref q_43, .ref q_45, .ref q_47, .ref q_49, .ref q_51, .ref q_53, .ref q_55, .ref q_57, .int 0, .ref q_59, .ref q_61, .ref q_63, .int (-1), .int 0, .int 0, .int 0, .int 0, .ref q_65, .int 0, .ref q_68, .int 0, .int (-1), .int 0, .int 0, .ref q_70, .ref q_72]))] H := hP
  have hD : va_D A [(h0, .inr (16, [.ref q_1, .ref q_12, .ref q_17, .ref q_22, .ref q_24, .ref q_26, .ref q_28, .ref q_29, .ref q_31, .ref q_33, .ref q_35, .int 0, .ref q_37, .ref q_39, .ref q_41, .ref q_43, .ref q_45, .ref q_47, .ref q_49, .ref q_51, .ref q_53, .ref q_55, .ref q_57, .int 0, .ref q_59, .ref q_61, .ref q_63, .int (-1), .int 0, .int 0, .int 0, .int 0, .ref q_65, .int 0, .ref q_68, .int 0, .int (-1), .int 0, .int 0, .ref q_70, .ref q_72]))] := hD
  refine lv_aload_n hx hb dX19_input_5 rfl (lv_at hl 0 rfl) ?_
  refine lv_aload_n hx hb dX19_input_6 rfl (lv_at hl 0 rfl) ?_
  refine va_get (D := (dC, dI)) (ci := 16) (v := .int 0) (C := RX19) (T := TX19) (N := 41) hx hb hts mem_X19_input_0 hown hK hP 0 rfl rfl 35 (by decide) (ow (k := 1) rfl) (fun _ h9 => h9) rfl dX19_input_7 ?_
  refine lv_iconst (v := 4) hx hb dX19_input_10 (by decide) ?_
  refine lv_idiv hx hb dX19_input_11 (by decide) ?_
  refine lv_topi (fun z ez => ?_)
  obtain rfl : z = 0 := by rw [ez]; decide
  refine va_newa (ty := .int) (n := 0) (N' := 0) (a0 := (0, .inl (fun _ => 0))) hx hb (ow (k := 2) rfl) rfl hK hP hD hS hA (fun _ => rfl) (by decide) (by decide) (by decide) (Nat.le_of_ble_eq_true rfl) (Nat.le_of_ble_eq_true rfl) dX19_input_12 (fun q_2001 cA_2002 H hK hP hD hS => ?_)
  have hP : va_P (dC, dI) vwP [(h0, .inr (16, [.ref q_1, .ref q_12, .ref q_17, .ref q_22, .ref q_24, .ref q_26, .ref q_28, .ref q_29, .ref q_31, .ref q_33, .ref q_35, .int 0, .ref q_37, .ref q_39, .ref q_41, .ref q_43, .ref q_45, .ref q_47, .ref q_49, .ref q_51, .ref q_53, .ref q_55, .ref q_57, .int 0, .ref q_59, .ref q_61, .ref q_63, .int (-1), .int 0, .int 0, .int 0, .int 0, .ref q_65, .int 0, .ref q_68, .int 0, .int (-1), .int 0, .int 0, .ref q_70, .ref q_72])), (q_2001, .inl (cA_2002, 0, .inl (fun _ => 0)))] H := hP
  have hD : va_D A [(h0, .inr (16, [.ref q_1, .ref q_12, .ref q_17, .ref q_22, .ref q_24, .ref q_26, .ref q_28, .ref q_29, .ref q_31, .ref q_33, .ref q_35, .int 0, .ref q_37, .ref q_39, .ref q_41, .ref q_43, .ref q_45, .ref q_47, .ref q_49, .ref q_51, .ref q_53, .ref q_55, .ref q_57, .int 0, .ref q_59, .ref q_61, .ref q_63, .int (-1), .int 0, .int 0, .int 0, .int 0, .ref q_65, .int 0, .ref q_68, .int 0, .int (-1), .int 0, .int 0, .ref q_70, .ref q_72])), (q_2001, .inl (cA_2002, 0, .inl (fun _ => 0)))] := hD
  have hK : va_K (dC, dI) vwP [(cA_2002, .int)] s := hK
  refine W.widen (k := 1) (n := 0) (Nat.le_of_ble_eq_true rfl) (Nat.le_of_ble_eq_true rfl) ?_
  refine va_put (D := (dC, dI)) (ci := 16) (v := .ref q_2001) (ty := .array .int) (C := RX19) (T := TX19) (N := 41) hx hb hts mem_X19_input_0 tyX19 tyX19_ok nmX19 hown hK hP hD hS 0 rfl rfl 40 (by decide) (ow (k := 3) rfl) (fun _ h9 => h9) rfl (by decide +kernel) rfl rfl (Nat.le_of_ble_eq_true rfl) dX19_input_14 (fun H locs hP hD hS => ?_)
  have hP : va_P (dC, dI) vwP [(h0, .inr (16, [.ref q_1, .ref q_12, .ref q_17, .ref q_22, .ref q_24, .ref q_26, .ref q_28, .ref q_29, .ref q_31, .ref q_33, .ref q_35, .int 0, .ref q_37, .ref q_39, .ref q_41, .ref q_43, .ref q_45, .ref q_47, .ref q_49, .ref q_51, .ref q_53, .ref q_55, .ref q_57, .int 0, .ref q_59, .ref q_61, .ref q_63, .int (-1), .int 0, .int 0, .int 0, .int 0, .ref q_65, .int 0, .ref q_68, .int 0, .int (-1), .int 0, .int 0, .ref q_70, .ref q_2001])), (q_2001, .inl (cA_2002, 0, .inl (fun _ => 0)))] H := hP
  have hD : va_D A [(h0, .inr (16, [.ref q_1, .ref q_12, .ref q_17, .ref q_22, .ref q_24, .ref q_26, .ref q_28, .ref q_29, .ref q_31, .ref q_33, .ref q_35, .int 0, .ref q_37, .ref q_39, .ref q_41, .ref q_43, .ref q_45, .ref q_47, .ref q_49, .ref q_51, .ref q_53, .ref q_55, .ref q_57, .int 0, .ref q_59, .ref q_61, .ref q_63, .int (-1), .int 0, .int 0, .int 0, .int 0, .ref q_65, .int 0, .ref q_68, .int 0, .int (-1), .int 0, .int 0, .ref q_70, .ref q_2001])), (q_2001, .inl (cA_2002, 0, .inl (fun _ => 0)))] := hD
  refine lv_iconst (v := 0) hx hb dX19_input_17 (by decide) ?_
  refine lv_istore_n (lv' := [(1, .int 0), (0, .ref h0)]) hx hb dX19_input_18 rfl hl (by decide) rfl (fun ls hl => ?_)
  refine lv_iload_n hx hb dX19_input_19 rfl (lv_at hl 0 rfl) ?_
  refine lv_aload_n hx hb dX19_input_20 rfl (lv_at hl 1 rfl) ?_
  refine va_get (D := (dC, dI)) (ci := 16) (v := .ref q_2001) (C := RX19) (T := TX19) (N := 41) hx hb hts mem_X19_input_0 hown hK hP 0 rfl rfl 40 (by decide) (ow (k := 3) rfl) (fun _ h9 => h9) rfl dX19_input_21 ?_
  refine va_alen (v := 0) hx hb hK hP 1 0 rfl rfl (by decide) dX19_input_24 ?_
  refine lv_icmp_ge (tgt := 77) hx hb dX19_input_25 (by decide) (fun _ => ?_) (fun h9 => absurd h9 (by decide))
  refine lv_aload_n hx hb dX19_input_77 rfl (lv_at hl 1 rfl) ?_
  refine lv_iconst (v := 0) hx hb dX19_input_78 (by decide) ?_
  refine va_put (D := (dC, dI)) (ci := 16) (v := .int 0) (ty := .int) (C := RX19) (T := TX19) (N := 41) hx hb hts mem_X19_input_0 tyX19 tyX19_ok nmX19 hown hK hP hD hS 0 rfl rfl 35 (by decide) (ow (k := 1) rfl) (fun _ h9 => h9) rfl (by decide +kernel) rfl rfl (Nat.le_of_ble_eq_true rfl) dX19_input_79 (fun H locs hP hD hS => ?_)
  have hP : va_P (dC, dI) vwP [(h0, .inr (16, [.ref q_1, .ref q_12, .ref q_17, .ref q_22, .ref q_24, .ref q_26, .ref q_28, .ref q_29, .ref q_31, .ref q_33, .ref q_35, .int 0, .ref q_37, .ref q_39, .ref q_41, .ref q_43, .ref q_45, .ref q_47, .ref q_49, .ref q_51, .ref q_53, .ref q_55, .ref q_57, .int 0, .ref q_59, .ref q_61, .ref q_63, .int (-1), .int 0, .int 0, .int 0, .int 0, .ref q_65, .int 0, .ref q_68, .int 0, .int (-1), .int 0, .int 0, .ref q_70, .ref q_2001])), (q_2001, .inl (cA_2002, 0, .inl (fun _ => 0)))] H := hP
  have hD : va_D A [(h0, .inr (16, [.ref q_1, .ref q_12, .ref q_17, .ref q_22, .ref q_24, .ref q_26, .ref q_28, .ref q_29, .ref q_31, .ref q_33, .ref q_35, .int 0, .ref q_37, .ref q_39, .ref q_41, .ref q_43, .ref q_45, .ref q_47, .ref q_49, .ref q_51, .ref q_53, .ref q_55, .ref q_57, .int 0, .ref q_59, .ref q_61, .ref q_63, .int (-1), .int 0, .int 0, .int 0, .int 0, .ref q_65, .int 0, .ref q_68, .int 0, .int (-1), .int 0, .int 0, .ref q_70, .ref q_2001])), (q_2001, .inl (cA_2002, 0, .inl (fun _ => 0)))] := hD
  refine lv_aload_n hx hb dX19_input_82 rfl (lv_at hl 1 rfl) ?_
  refine va_get (D := (dC, dI)) (ci := 16) (v := .ref q_2001) (C := RX19) (T := TX19) (N := 41) hx hb hts mem_X19_input_0 hown hK hP 0 rfl rfl 40 (by decide) (ow (k := 3) rfl) (fun _ h9 => h9) rfl dX19_input_83 ?_
  refine va_alen (v := 0) hx hb hK hP 1 0 rfl rfl (by decide) dX19_input_86 ?_
  have hP := hP.sub (ws' := []) [] rfl
  have hD := hD.sub (ws' := []) [] (by decide) rfl
  have hK := hK.sub (tys' := []) [] rfl
  refine W.widen (k := 1) (n := 0) (Nat.le_of_ble_eq_true rfl) (Nat.le_of_ble_eq_true rfl) ?_
  exact W.iret (v := 0) hx hb hr (fun t ht hW => ⟨⟨0, (), rfl, rfl, by rw [ht]; exact hP, va_K.moved hW.alike hK, hD⟩, hS.F ht⟩) hS.2.2 dX19_input_87
theorem dX16_next_0 : decode cX16_next 0 = .ok (.aload_n 0, 1) := by decide +kernel
theorem dX16_next_1 : decode cX16_next 1 = .ok (.aload_n 0, 1) := by decide +kernel
theorem dX16_next_2 : decode cX16_next 2 = .ok (.getfield 38, 3) := by decide +kernel
theorem dX16_next_5 : decode cX16_next 5 = .ok (.putfield 41, 3) := by decide +kernel
theorem dX16_next_8 : decode cX16_next 8 = .ok (.aload_n 0, 1) := by decide +kernel
theorem dX16_next_9 : decode cX16_next 9 = .ok (.getfield 44, 3) := by decide +kernel
theorem dX16_next_12 : decode cX16_next 12 = .ok (.aload_n 0, 1) := by decide +kernel
theorem dX16_next_13 : decode cX16_next 13 = .ok (.getfield 32, 3) := by decide +kernel
theorem dX16_next_16 : decode cX16_next 16 = .ok (.if_icmp .ge 94, 3) := by decide +kernel
theorem dX16_next_110 : decode cX16_next 110 = .ok (.aload_n 0, 1) := by decide +kernel
theorem dX16_next_111 : decode cX16_next 111 = .ok (.aload_n 0, 1) := by decide +kernel
theorem dX16_next_112 : decode cX16_next 112 = .ok (.getfield 44, 3) := by decide +kernel
theorem dX16_next_115 : decode cX16_next 115 = .ok (.putfield 47, 3) := by decide +kernel
theorem dX16_next_118 : decode cX16_next 118 = .ok (.aload_n 0, 1) := by decide +kernel
theorem dX16_next_119 : decode cX16_next 119 = .ok (.ldc 9, 2) := by decide +kernel
theorem dX16_next_121 : decode cX16_next 121 = .ok (.putfield 11, 3) := by decide +kernel
theorem dX16_next_124 : decode cX16_next 124 = .ok (.aload_n 0, 1) := by decide +kernel
theorem dX16_next_125 : decode cX16_next 125 = .ok (.getfield 44, 3) := by decide +kernel
theorem dX16_next_128 : decode cX16_next 128 = .ok (.aload_n 0, 1) := by decide +kernel
theorem dX16_next_129 : decode cX16_next 129 = .ok (.getfield 32, 3) := by decide +kernel
theorem dX16_next_132 : decode cX16_next 132 = .ok (.if_icmp .ne 9, 3) := by decide +kernel
theorem dX16_next_135 : decode cX16_next 135 = .ok (.aload_n 0, 1) := by decide +kernel
theorem dX16_next_136 : decode cX16_next 136 = .ok (.iconst 0, 1) := by decide +kernel
theorem dX16_next_137 : decode cX16_next 137 = .ok (.putfield 38, 3) := by decide +kernel
theorem dX16_next_140 : decode cX16_next 140 = .ok (.return_, 1) := by decide +kernel
def o_X16_next : List Cond := [.fieldLink RX16 38 "SsaForgeModel$Reader" "kind" "I", .fieldLink RX16 41 "SsaForgeModel$Reader" "before" "I", .fieldLink RX16 44 "SsaForgeModel$Reader" "at" "I", .fieldLink RX16 32 "SsaForgeModel$Reader" "n" "I", .fieldLink RX16 47 "SsaForgeModel$Reader" "place" "I", .fieldLink RX16 11 "SsaForgeModel$Reader" "text" "Ljava/lang/String;"]
def v_X16_next : List Cond := .code yX16_next cX16_next 3 none :: (o_X16_next ++ (wsX160 ++ []))
theorem mow_X16_next : ∀ w ∈ o_X16_next, w ∈ v_X16_next := fun _ h => List.mem_cons_of_mem _ (List.mem_append_left _ h)
theorem mem_X16_next_0 : ∀ w ∈ wsX160, w ∈ v_X16_next := fun _ h => List.mem_cons_of_mem _ (List.mem_append_right _ (List.mem_append_left _ h))
set_option maxRecDepth 20000 in
theorem gw_X16_next : v_X16_next.all goodWord = true := by decide +kernel
set_option maxHeartbeats 4000000 in
set_option maxRecDepth 100000 in
theorem c_X16_next (l : Launch) (dC : Nat → ClassId) (dI : Nat → Nat → Nat) (h0 : Nat) (q_801 : Nat) (q_803 : Nat) (q_804 : Nat) (sz : Nat) (sa_RX16_9 : Nat) : Met l yX16_next v_X16_next ({ frames := 0, cells := 0, slots := 0, locals := 0 }) (va_Pc [.ref h0] (fun U => U.heap.size = sz ∧ va_P (dC, dI) vwP [(h0, .inr (14, [.ref q_801, .int 0, .int 0, .int 0, .int 0, .int 0, .int 0, .ref sa_RX16_9, .int (-1), .int 0, .int 0, .ref q_803, .ref q_804, .int 0]))] U.heap ∧ va_K (dC, dI) vwP [] U ∧ va_D (fun _ => True) [(h0, .inr (14, [.ref q_801, .int 0, .int 0, .int 0, .int 0, .int 0, .int 0, .ref sa_RX16_9, .int (-1), .int 0, .int 0, .ref q_803, .ref q_804, .int 0]))] ∧ vk_R RX16 9 "" sa_RX16_9 U)) (va_Qv (fun _ : Unit => True) (fun (_ : Unit) (t : State) => va_P (dC, dI) vwP [(h0, .inr (14, [.ref q_801, .int 0, .int 0, .int 0, .int 0, .int 0, .int 0, .ref sa_RX16_9, .int (-1), .int 0, .int 0, .ref q_803, .ref q_804, .int 0]))] t.heap ∧ va_K (dC, dI) vwP [] t ∧ va_D (va_A [(h0, .inr (14, [.ref q_801, .int 0, .int 0, .int 0, .int 0, .int 0, .int 0, .ref sa_RX16_9, .int (-1), .int 0, .int 0, .ref q_803, .ref q_804, .int 0]))] sz) [(h0, .inr (14, [.ref q_801, .int 0, .int 0, .int 0, .int 0, .int 0, .int 0, .ref sa_RX16_9, .int (-1), .int 0, .int 0, .ref q_803, .ref q_804, .int 0]))]) (va_A [(h0, .inr (14, [.ref q_801, .int 0, .int 0, .int 0, .int 0, .int 0, .int 0, .ref sa_RX16_9, .int (-1), .int 0, .int 0, .ref q_803, .ref q_804, .int 0]))] sz)) 0 0 (va_A [(h0, .inr (14, [.ref q_801, .int 0, .int 0, .int 0, .int 0, .int 0, .int 0, .ref sa_RX16_9, .int (-1), .int 0, .int 0, .ref q_803, .ref q_804, .int 0]))] sz) := by
  refine Met.ofW (cc := cX16_next) (maxL := 3) (ret := none) (by decide) rfl ?_
  intro p e s m args below meth c s₁ B hml hv
  obtain ⟨rfl, hsz, hP, hK, hD0, hp0⟩ := hv
  have hx := B.exec
  have hb := B.bytes
  have hr := B.returns
  have hts := atoms_spec (ws := v_X16_next) B.pre
  have hown : s.vm.findClass RX16 = some m.cls := findClass_of_methodNamed B.named
  have hlocks := B.notSynchronized
  have ow : ∀ {k : Nat} {w : Cond}, o_X16_next[k]? = some w → w.before ([.ref h0] : List Value).toArray s = true := fun h => hts _ (mow_X16_next _ (List.mem_of_getElem? h))
  subst hsz
  have hD := hD0.self (sz := s.heap.size)
  generalize hAe : va_A [(h0, .inr (14, [.ref q_801, .int 0, .int 0, .int 0, .int 0, .int 0, .int 0, .ref sa_RX16_9, .int (-1), .int 0, .int 0, .ref q_803, .ref q_804, .int 0]))] s.heap.size = A at hD ⊢
  have hA : ∀ q : Nat, s.heap.size ≤ q → A q := fun q h => by rw [← hAe]; exact Or.inr h
  have hS : va_S A s.heap s.heap [] := va_S.rf
  have hP : va_P (dC, dI) vwP [(h0, .inr (14, [.ref q_801, .int 0, .int 0, .int 0, .int 0, .int 0, .int 0, .ref sa_RX16_9, .int (-1), .int 0, .int 0, .ref q_803, .ref q_804, .int 0]))] s.heap := hP
  have hl := lv_entry ([.ref h0]) (n := 3) (Nat.le_of_ble_eq_true rfl)
  rw [lg_entry_eq]
  generalize (lg_sl ([.ref h0]) ++ List.replicate (3 - (lg_sl ([.ref h0])).length) Slot.unset).toArray = ls at hl ⊢
  have hl : lv_has ls 3 [(0, .ref h0)] := hl
  obtain ⟨H, hH⟩ : ∃ H, H = s.heap := ⟨_, rfl⟩
  rw [← hH] at hP
  have hS : va_S A s.heap H [] := by rw [hH]; exact hS
  rw [← hH]
  refine lv_aload_n hx hb dX16_next_0 rfl (lv_at hl 0 rfl) ?_
  refine lv_aload_n hx hb dX16_next_1 rfl (lv_at hl 0 rfl) ?_
  refine va_get (D := (dC, dI)) (ci := 14) (v := .int 0) (C := RX16) (T := TX16) (N := 14) hx hb hts mem_X16_next_0 hown hK hP 0 rfl rfl 3 (by decide) (ow (k := 0) rfl) (fun _ h9 => h9) rfl dX16_next_2 ?_
  refine va_put (D := (dC, dI)) (ci := 14) (v := .int 0) (ty := .int) (C := RX16) (T := TX16) (N := 14) hx hb hts mem_X16_next_0 tyX16 tyX16_ok nmX16 hown hK hP hD hS 0 rfl rfl 6 (by decide) (ow (k := 1) rfl) (fun _ h9 => h9) rfl (by decide +kernel) rfl rfl (Nat.le_of_ble_eq_true rfl) dX16_next_5 (fun H locs hP hD hS => ?_)
  have hP : va_P (dC, dI) vwP [(h0, .inr (14, [.ref q_801, .int 0, .int 0, .int 0, .int 0, .int 0, .int 0, .ref sa_RX16_9, .int (-1), .int 0, .int 0, .ref q_803, .ref q_804, .int 0]))] H := hP
  have hD : va_D A [(h0, .inr (14, [.ref q_801, .int 0, .int 0, .int 0, .int 0, .int 0, .int 0, .ref sa_RX16_9, .int (-1), .int 0, .int 0, .ref q_803, .ref q_804, .int 0]))] := hD
  refine lv_aload_n hx hb dX16_next_8 rfl (lv_at hl 0 rfl) ?_
  refine va_get (D := (dC, dI)) (ci := 14) (v := .int 0) (C := RX16) (T := TX16) (N := 14) hx hb hts mem_X16_next_0 hown hK hP 0 rfl rfl 2 (by decide) (ow (k := 2) rfl) (fun _ h9 => h9) rfl dX16_next_9 ?_
  refine lv_aload_n hx hb dX16_next_12 rfl (lv_at hl 0 rfl) ?_
  refine va_get (D := (dC, dI)) (ci := 14) (v := .int 0) (C := RX16) (T := TX16) (N := 14) hx hb hts mem_X16_next_0 hown hK hP 0 rfl rfl 1 (by decide) (ow (k := 3) rfl) (fun _ h9 => h9) rfl dX16_next_13 ?_
  refine lv_icmp_ge (tgt := 110) hx hb dX16_next_16 (by decide) (fun _ => ?_) (fun h9 => absurd h9 (by decide))
  refine lv_aload_n hx hb dX16_next_110 rfl (lv_at hl 0 rfl) ?_
  refine lv_aload_n hx hb dX16_next_111 rfl (lv_at hl 0 rfl) ?_
  refine va_get (D := (dC, dI)) (ci := 14) (v := .int 0) (C := RX16) (T := TX16) (N := 14) hx hb hts mem_X16_next_0 hown hK hP 0 rfl rfl 2 (by decide) (ow (k := 2) rfl) (fun _ h9 => h9) rfl dX16_next_112 ?_
  refine va_put (D := (dC, dI)) (ci := 14) (v := .int 0) (ty := .int) (C := RX16) (T := TX16) (N := 14) hx hb hts mem_X16_next_0 tyX16 tyX16_ok nmX16 hown hK hP hD hS 0 rfl rfl 4 (by decide) (ow (k := 4) rfl) (fun _ h9 => h9) rfl (by decide +kernel) rfl rfl (Nat.le_of_ble_eq_true rfl) dX16_next_115 (fun H locs hP hD hS => ?_)
  have hP : va_P (dC, dI) vwP [(h0, .inr (14, [.ref q_801, .int 0, .int 0, .int 0, .int 0, .int 0, .int 0, .ref sa_RX16_9, .int (-1), .int 0, .int 0, .ref q_803, .ref q_804, .int 0]))] H := hP
  have hD : va_D A [(h0, .inr (14, [.ref q_801, .int 0, .int 0, .int 0, .int 0, .int 0, .int 0, .ref sa_RX16_9, .int (-1), .int 0, .int 0, .ref q_803, .ref q_804, .int 0]))] := hD
  refine lv_aload_n hx hb dX16_next_118 rfl (lv_at hl 0 rfl) ?_
  refine va_ldcS hx hb hown hp0 dX16_next_119 ?_
  refine va_put (D := (dC, dI)) (ci := 14) (v := .ref sa_RX16_9) (ty := .object "java/lang/String") (C := RX16) (T := TX16) (N := 14) hx hb hts mem_X16_next_0 tyX16 tyX16_ok nmX16 hown hK hP hD hS 0 rfl rfl 7 (by decide) (ow (k := 5) rfl) (fun _ h9 => h9) rfl (by decide +kernel) rfl rfl (Nat.le_of_ble_eq_true rfl) dX16_next_121 (fun H locs hP hD hS => ?_)
  have hP : va_P (dC, dI) vwP [(h0, .inr (14, [.ref q_801, .int 0, .int 0, .int 0, .int 0, .int 0, .int 0, .ref sa_RX16_9, .int (-1), .int 0, .int 0, .ref q_803, .ref q_804, .int 0]))] H := hP
  have hD : va_D A [(h0, .inr (14, [.ref q_801, .int 0, .int 0, .int 0, .int 0, .int 0, .int 0, .ref sa_RX16_9, .int (-1), .int 0, .int 0, .ref q_803, .ref q_804, .int 0]))] := hD
  refine lv_aload_n hx hb dX16_next_124 rfl (lv_at hl 0 rfl) ?_
  refine va_get (D := (dC, dI)) (ci := 14) (v := .int 0) (C := RX16) (T := TX16) (N := 14) hx hb hts mem_X16_next_0 hown hK hP 0 rfl rfl 2 (by decide) (ow (k := 2) rfl) (fun _ h9 => h9) rfl dX16_next_125 ?_
  refine lv_aload_n hx hb dX16_next_128 rfl (lv_at hl 0 rfl) ?_
  refine va_get (D := (dC, dI)) (ci := 14) (v := .int 0) (C := RX16) (T := TX16) (N := 14) hx hb hts mem_X16_next_0 hown hK hP 0 rfl rfl 1 (by decide) (ow (k := 3) rfl) (fun _ h9 => h9) rfl dX16_next_129 ?_
  refine lv_icmp_ne (tgt := 141) hx hb dX16_next_132 (by decide) (fun h9 => absurd h9 (by decide)) (fun _ => ?_)
  refine lv_aload_n hx hb dX16_next_135 rfl (lv_at hl 0 rfl) ?_
  refine lv_iconst (v := 0) hx hb dX16_next_136 (by decide) ?_
  refine va_put (D := (dC, dI)) (ci := 14) (v := .int 0) (ty := .int) (C := RX16) (T := TX16) (N := 14) hx hb hts mem_X16_next_0 tyX16 tyX16_ok nmX16 hown hK hP hD hS 0 rfl rfl 3 (by decide) (ow (k := 0) rfl) (fun _ h9 => h9) rfl (by decide +kernel) rfl rfl (Nat.le_of_ble_eq_true rfl) dX16_next_137 (fun H locs hP hD hS => ?_)
  have hP : va_P (dC, dI) vwP [(h0, .inr (14, [.ref q_801, .int 0, .int 0, .int 0, .int 0, .int 0, .int 0, .ref sa_RX16_9, .int (-1), .int 0, .int 0, .ref q_803, .ref q_804, .int 0]))] H := hP
  have hD : va_D A [(h0, .inr (14, [.ref q_801, .int 0, .int 0, .int 0, .int 0, .int 0, .int 0, .ref sa_RX16_9, .int (-1), .int 0, .int 0, .ref q_803, .ref q_804, .int 0]))] := hD
  refine W.widen (k := 0) (n := 0) (Nat.le_of_ble_eq_true rfl) (Nat.le_of_ble_eq_true rfl) ?_
  exact W.vret hx hb hr (fun t ht hW => ⟨⟨(), rfl, trivial, by rw [ht]; exact hP, va_K.moved hW.alike hK, hD⟩, hS.F ht⟩) hS.2.2 dX16_next_140
theorem dX16_init_0 : decode cX16_init 0 = .ok (.aload_n 0, 1) := by decide +kernel
theorem dX16_init_1 : decode cX16_init 1 = .ok (.invokespecial 3, 3) := by decide +kernel
theorem dX16_init_4 : decode cX16_init 4 = .ok (.aload_n 0, 1) := by decide +kernel
theorem dX16_init_5 : decode cX16_init 5 = .ok (.ldc 9, 2) := by decide +kernel
theorem dX16_init_7 : decode cX16_init 7 = .ok (.putfield 11, 3) := by decide +kernel
theorem dX16_init_10 : decode cX16_init 10 = .ok (.aload_n 0, 1) := by decide +kernel
theorem dX16_init_11 : decode cX16_init 11 = .ok (.iconst (-1), 1) := by decide +kernel
theorem dX16_init_12 : decode cX16_init 12 = .ok (.putfield 17, 3) := by decide +kernel
theorem dX16_init_15 : decode cX16_init 15 = .ok (.aload_n 0, 1) := by decide +kernel
theorem dX16_init_16 : decode cX16_init 16 = .ok (.bipush 16, 2) := by decide +kernel
theorem dX16_init_18 : decode cX16_init 18 = .ok (.newarray .int, 2) := by decide +kernel
theorem dX16_init_20 : decode cX16_init 20 = .ok (.putfield 21, 3) := by decide +kernel
theorem dX16_init_23 : decode cX16_init 23 = .ok (.aload_n 0, 1) := by decide +kernel
theorem dX16_init_24 : decode cX16_init 24 = .ok (.bipush 16, 2) := by decide +kernel
theorem dX16_init_26 : decode cX16_init 26 = .ok (.newarray .int, 2) := by decide +kernel
theorem dX16_init_28 : decode cX16_init 28 = .ok (.putfield 25, 3) := by decide +kernel
theorem dX16_init_31 : decode cX16_init 31 = .ok (.aload_n 0, 1) := by decide +kernel
theorem dX16_init_32 : decode cX16_init 32 = .ok (.aload_n 1, 1) := by decide +kernel
theorem dX16_init_33 : decode cX16_init 33 = .ok (.putfield 28, 3) := by decide +kernel
theorem dX16_init_36 : decode cX16_init 36 = .ok (.aload_n 0, 1) := by decide +kernel
theorem dX16_init_37 : decode cX16_init 37 = .ok (.iload_n 2, 1) := by decide +kernel
theorem dX16_init_38 : decode cX16_init 38 = .ok (.putfield 32, 3) := by decide +kernel
theorem dX16_init_41 : decode cX16_init 41 = .ok (.aload_n 0, 1) := by decide +kernel
theorem dX16_init_42 : decode cX16_init 42 = .ok (.invokevirtual 35, 3) := by decide +kernel
theorem dX16_init_45 : decode cX16_init 45 = .ok (.return_, 1) := by decide +kernel
def o_X16_init : List Cond := [.methodLink RX16 3 objectInit, .instanceMethod objectInit, .code objectInit ⟨#[0xb1]⟩ 1 none, .fieldLink RX16 11 "SsaForgeModel$Reader" "text" "Ljava/lang/String;", .fieldLink RX16 17 "SsaForgeModel$Reader" "rulePlace" "I", .arrayClass .int, .fieldLink RX16 21 "SsaForgeModel$Reader" "goalPlaces" "[I", .fieldLink RX16 25 "SsaForgeModel$Reader" "goals" "[I", .fieldLink RX16 28 "SsaForgeModel$Reader" "t" "[B", .fieldLink RX16 32 "SsaForgeModel$Reader" "n" "I", .methodLink RX16 35 yX16_next, .instanceMethod yX16_next, .selects RX16 yX16_next yX16_next, .initialized RX16]
def v_X16_init : List Cond := .code yX16_init cX16_init 3 none :: (o_X16_init ++ (wsX160 ++ (v_X16_next ++ [])))
theorem mow_X16_init : ∀ w ∈ o_X16_init, w ∈ v_X16_init := fun _ h => List.mem_cons_of_mem _ (List.mem_append_left _ h)
theorem mem_X16_init_0 : ∀ w ∈ wsX160, w ∈ v_X16_init := fun _ h => List.mem_cons_of_mem _ (List.mem_append_right _ (List.mem_append_left _ h))
theorem mem_X16_init_1 : ∀ w ∈ v_X16_next, w ∈ v_X16_init := fun _ h => List.mem_cons_of_mem _ (List.mem_append_right _ (List.mem_append_right _ (List.mem_append_left _ h)))
set_option maxRecDepth 20000 in
theorem gw_X16_init : v_X16_init.all goodWord = true := by decide +kernel
set_option maxRecDepth 20000 in
theorem g_X16_init_X16_next : GoodIn v_X16_init (wsV RX16 35 RX16 yX16_next v_X16_next) := goodIn_app (goodIn_sub (fun w h => mow_X16_init w (by revert w h; decide +kernel)) (by decide +kernel)) (goodIn_sub mem_X16_init_1 gw_X16_next)
set_option maxHeartbeats 4000000 in
set_option maxRecDepth 100000 in
theorem c_X16_init (l : Launch) (dC : Nat → ClassId) (dI : Nat → Nat → Nat) (h0 : Nat) (q_801 : Nat) (sz : Nat) (sa_RX16_9 : Nat) : Met l yX16_init v_X16_init ({ frames := 1, cells := 2, slots := 32, locals := 22 }) (va_Pc [.ref h0, .ref q_801, .int 0] (fun U => U.heap.size = sz ∧ va_P (dC, dI) vwP [(h0, .inr (14, [.null, .int 0, .int 0, .int 0, .int 0, .int 0, .int 0, .null, .int 0, .int 0, .int 0, .null, .null, .int 0]))] U.heap ∧ va_K (dC, dI) vwP [] U ∧ va_D (fun _ => True) [(h0, .inr (14, [.null, .int 0, .int 0, .int 0, .int 0, .int 0, .int 0, .null, .int 0, .int 0, .int 0, .null, .null, .int 0]))] ∧ vk_R RX16 9 "" sa_RX16_9 U)) (va_Qv (fun _ : Unit => True) (fun (_ : Unit) (t : State) => ∃ (q_2001 : Nat) (q_2003 : Nat), va_P (dC, dI) vwP [(h0, .inr (14, [.ref q_801, .int 0, .int 0, .int 0, .int 0, .int 0, .int 0, .ref sa_RX16_9, .int (-1), .int 0, .int 0, .ref q_2001, .ref q_2003, .int 0]))] t.heap ∧ va_K (dC, dI) vwP [] t ∧ va_D (va_A [(h0, .inr (14, [.null, .int 0, .int 0, .int 0, .int 0, .int 0, .int 0, .null, .int 0, .int 0, .int 0, .null, .null, .int 0]))] sz) [(h0, .inr (14, [.ref q_801, .int 0, .int 0, .int 0, .int 0, .int 0, .int 0, .ref sa_RX16_9, .int (-1), .int 0, .int 0, .ref q_2001, .ref q_2003, .int 0]))]) (va_A [(h0, .inr (14, [.null, .int 0, .int 0, .int 0, .int 0, .int 0, .int 0, .null, .int 0, .int 0, .int 0, .null, .null, .int 0]))] sz)) 2 32 (va_A [(h0, .inr (14, [.null, .int 0, .int 0, .int 0, .int 0, .int 0, .int 0, .null, .int 0, .int 0, .int 0, .null, .null, .int 0]))] sz) := by
  refine Met.ofW (cc := cX16_init) (maxL := 3) (ret := none) (by decide) rfl ?_
  intro p e s m args below meth c s₁ B hml hv
  obtain ⟨rfl, hsz, hP, hK, hD0, hp0⟩ := hv
  have hx := B.exec
  have hb := B.bytes
  have hr := B.returns
  have hts := atoms_spec (ws := v_X16_init) B.pre
  have hown : s.vm.findClass RX16 = some m.cls := findClass_of_methodNamed B.named
  have hlocks := B.notSynchronized
  have ow : ∀ {k : Nat} {w : Cond}, o_X16_init[k]? = some w → w.before ([.ref h0, .ref q_801, .int 0] : List Value).toArray s = true := fun h => hts _ (mow_X16_init _ (List.mem_of_getElem? h))
  have hin : meth.name = "<init>" := (name_of_methodNamed B.named B.method).1
  subst hsz
  have hD := hD0.self (sz := s.heap.size)
  generalize hAe : va_A [(h0, .inr (14, [.null, .int 0, .int 0, .int 0, .int 0, .int 0, .int 0, .null, .int 0, .int 0, .int 0, .null, .null, .int 0]))] s.heap.size = A at hD ⊢
  have hA : ∀ q : Nat, s.heap.size ≤ q → A q := fun q h => by rw [← hAe]; exact Or.inr h
  have hS : va_S A s.heap s.heap [] := va_S.rf
  have hP : va_P (dC, dI) vwP [(h0, .inr (14, [.null, .int 0, .int 0, .int 0, .int 0, .int 0, .int 0, .null, .int 0, .int 0, .int 0, .null, .null, .int 0]))] s.heap := hP
  have hl := lv_entry ([.ref h0, .ref q_801, .int 0]) (n := 3) (Nat.le_of_ble_eq_true rfl)
  rw [lg_entry_eq]
  generalize (lg_sl ([.ref h0, .ref q_801, .int 0]) ++ List.replicate (3 - (lg_sl ([.ref h0, .ref q_801, .int 0])).length) Slot.unset).toArray = ls at hl ⊢
  have hl : lv_has ls 3 [(0, .ref h0), (1, .ref q_801), (2, .int 0)] := hl
  obtain ⟨H, hH⟩ : ∃ H, H = s.heap := ⟨_, rfl⟩
  rw [← hH] at hP
  have hS : va_S A s.heap H [] := by rw [hH]; exact hS
  rw [← hH]
  refine lv_aload_n hx hb dX16_init_0 rfl (lv_at hl 0 rfl) ?_
  refine W.objInit hx hb hown (ow (k := 0) rfl) (ow (k := 1) rfl) (ow (k := 2) rfl) rfl (by rw [hml]; exact hl.1) rfl dX16_init_1 (Nat.le_of_ble_eq_true rfl) (Nat.le_of_ble_eq_true rfl) ?_
  refine W.eq (g2 := F0 m 4 ls []) rfl ?_
  refine lv_aload_n hx hb dX16_init_4 rfl (lv_at hl 0 rfl) ?_
  refine va_ldcS hx hb hown hp0 dX16_init_5 ?_
  refine va_put (D := (dC, dI)) (ci := 14) (v := .ref sa_RX16_9) (ty := .object "java/lang/String") (C := RX16) (T := TX16) (N := 14) hx hb hts mem_X16_init_0 tyX16 tyX16_ok nmX16 hown hK hP hD hS 0 rfl rfl 7 (by decide) (ow (k := 3) rfl) (fun _ h9 => h9) rfl (by decide +kernel) rfl rfl (Nat.le_of_ble_eq_true rfl) dX16_init_7 (fun H locs hP hD hS => ?_)
  have hP : va_P (dC, dI) vwP [(h0, .inr (14, [.null, .int 0, .int 0, .int 0, .int 0, .int 0, .int 0, .ref sa_RX16_9, .int 0, .int 0, .int 0, .null, .null, .int 0]))] H := hP
  have hD : va_D A [(h0, .inr (14, [.null, .int 0, .int 0, .int 0, .int 0, .int 0, .int 0, .ref sa_RX16_9, .int 0, .int 0, .int 0, .null, .null, .int 0]))] := hD
  refine lv_aload_n hx hb dX16_init_10 rfl (lv_at hl 0 rfl) ?_
  refine lv_iconst (v := (-1)) hx hb dX16_init_11 (by decide) ?_
  refine va_put (D := (dC, dI)) (ci := 14) (v := .int (-1)) (ty := .int) (C := RX16) (T := TX16) (N := 14) hx hb hts mem_X16_init_0 tyX16 tyX16_ok nmX16 hown hK hP hD hS 0 rfl rfl 8 (by decide) (ow (k := 4) rfl) (fun _ h9 => h9) rfl (by decide +kernel) rfl rfl (Nat.le_of_ble_eq_true rfl) dX16_init_12 (fun H locs hP hD hS => ?_)
  have hP : va_P (dC, dI) vwP [(h0, .inr (14, [.null, .int 0, .int 0, .int 0, .int 0, .int 0, .int 0, .ref sa_RX16_9, .int (-1), .int 0, .int 0, .null, .null, .int 0]))] H := hP
  have hD : va_D A [(h0, .inr (14, [.null, .int 0, .int 0, .int 0, .int 0, .int 0, .int 0, .ref sa_RX16_9, .int (-1), .int 0, .int 0, .null, .null, .int 0]))] := hD
  refine lv_aload_n hx hb dX16_init_15 rfl (lv_at hl 0 rfl) ?_
  refine lv_bipush (v := 16) hx hb dX16_init_16 (by decide) ?_
  refine va_newa (ty := .int) (n := 16) (N' := 16) (a0 := (16, .inl (fun _ => 0))) hx hb (ow (k := 5) rfl) rfl hK hP hD hS hA (fun _ => rfl) (by decide) (by decide) (by decide) (Nat.le_of_ble_eq_true rfl) (Nat.le_of_ble_eq_true rfl) dX16_init_18 (fun q_2001 cA_2002 H hK hP hD hS => ?_)
  have hP : va_P (dC, dI) vwP [(h0, .inr (14, [.null, .int 0, .int 0, .int 0, .int 0, .int 0, .int 0, .ref sa_RX16_9, .int (-1), .int 0, .int 0, .null, .null, .int 0])), (q_2001, .inl (cA_2002, 16, .inl (fun _ => 0)))] H := hP
  have hD : va_D A [(h0, .inr (14, [.null, .int 0, .int 0, .int 0, .int 0, .int 0, .int 0, .ref sa_RX16_9, .int (-1), .int 0, .int 0, .null, .null, .int 0])), (q_2001, .inl (cA_2002, 16, .inl (fun _ => 0)))] := hD
  have hK : va_K (dC, dI) vwP [(cA_2002, .int)] s := hK
  refine W.widen (k := 1) (n := 16) (Nat.le_of_ble_eq_true rfl) (Nat.le_of_ble_eq_true rfl) ?_
  refine va_put (D := (dC, dI)) (ci := 14) (v := .ref q_2001) (ty := .array .int) (C := RX16) (T := TX16) (N := 14) hx hb hts mem_X16_init_0 tyX16 tyX16_ok nmX16 hown hK hP hD hS 0 rfl rfl 11 (by decide) (ow (k := 6) rfl) (fun _ h9 => h9) rfl (by decide +kernel) rfl rfl (Nat.le_of_ble_eq_true rfl) dX16_init_20 (fun H locs hP hD hS => ?_)
  have hP : va_P (dC, dI) vwP [(h0, .inr (14, [.null, .int 0, .int 0, .int 0, .int 0, .int 0, .int 0, .ref sa_RX16_9, .int (-1), .int 0, .int 0, .ref q_2001, .null, .int 0])), (q_2001, .inl (cA_2002, 16, .inl (fun _ => 0)))] H := hP
  have hD : va_D A [(h0, .inr (14, [.null, .int 0, .int 0, .int 0, .int 0, .int 0, .int 0, .ref sa_RX16_9, .int (-1), .int 0, .int 0, .ref q_2001, .null, .int 0])), (q_2001, .inl (cA_2002, 16, .inl (fun _ => 0)))] := hD
  refine lv_aload_n hx hb dX16_init_23 rfl (lv_at hl 0 rfl) ?_
  refine lv_bipush (v := 16) hx hb dX16_init_24 (by decide) ?_
  refine va_newa (ty := .int) (n := 16) (N' := 16) (a0 := (16, .inl (fun _ => 0))) hx hb (ow (k := 5) rfl) rfl hK hP hD hS hA (fun _ => rfl) (by decide) (by decide) (by decide) (Nat.le_of_ble_eq_true rfl) (Nat.le_of_ble_eq_true rfl) dX16_init_26 (fun q_2003 cA_2004 H hK hP hD hS => ?_)
  have hP : va_P (dC, dI) vwP [(h0, .inr (14, [.null, .int 0, .int 0, .int 0, .int 0, .int 0, .int 0, .ref sa_RX16_9, .int (-1), .int 0, .int 0, .ref q_2001, .null, .int 0])), (q_2001, .inl (cA_2002, 16, .inl (fun _ => 0))), (q_2003, .inl (cA_2004, 16, .inl (fun _ => 0)))] H := hP
  have hD : va_D A [(h0, .inr (14, [.null, .int 0, .int 0, .int 0, .int 0, .int 0, .int 0, .ref sa_RX16_9, .int (-1), .int 0, .int 0, .ref q_2001, .null, .int 0])), (q_2001, .inl (cA_2002, 16, .inl (fun _ => 0))), (q_2003, .inl (cA_2004, 16, .inl (fun _ => 0)))] := hD
  have hK : va_K (dC, dI) vwP [(cA_2002, .int), (cA_2004, .int)] s := hK
  refine W.widen (k := 2) (n := 32) (Nat.le_of_ble_eq_true rfl) (Nat.le_of_ble_eq_true rfl) ?_
  refine va_put (D := (dC, dI)) (ci := 14) (v := .ref q_2003) (ty := .array .int) (C := RX16) (T := TX16) (N := 14) hx hb hts mem_X16_init_0 tyX16 tyX16_ok nmX16 hown hK hP hD hS 0 rfl rfl 12 (by decide) (ow (k := 7) rfl) (fun _ h9 => h9) rfl (by decide +kernel) rfl rfl (Nat.le_of_ble_eq_true rfl) dX16_init_28 (fun H locs hP hD hS => ?_)
  have hP : va_P (dC, dI) vwP [(h0, .inr (14, [.null, .int 0, .int 0, .int 0, .int 0, .int 0, .int 0, .ref sa_RX16_9, .int (-1), .int 0, .int 0, .ref q_2001, .ref q_2003, .int 0])), (q_2001, .inl (cA_2002, 16, .inl (fun _ => 0))), (q_2003, .inl (cA_2004, 16, .inl (fun _ => 0)))] H := hP
  have hD : va_D A [(h0, .inr (14, [.null, .int 0, .int 0, .int 0, .int 0, .int 0, .int 0, .ref sa_RX16_9, .int (-1), .int 0, .int 0, .ref q_2001, .ref q_2003, .int 0])), (q_2001, .inl (cA_2002, 16, .inl (fun _ => 0))), (q_2003, .inl (cA_2004, 16, .inl (fun _ => 0)))] := hD
  refine lv_aload_n hx hb dX16_init_31 rfl (lv_at hl 0 rfl) ?_
  refine lv_aload_n hx hb dX16_init_32 rfl (lv_at hl 1 rfl) ?_
  refine va_putF (D := (dC, dI)) (ci := 14) (v := .ref q_801) (ty := .array .byte) (C := RX16) (T := TX16) (N := 14) hx hb hts mem_X16_init_0 tyX16 tyX16_ok nmX16 hown hK hP hD hS 0 rfl rfl 0 (by decide) (ow (k := 8) rfl) (fun _ h9 => h9) rfl hin rfl (by decide +kernel) rfl rfl (Nat.le_of_ble_eq_true rfl) dX16_init_33 (fun H locs hP hD hS => ?_)
  have hP : va_P (dC, dI) vwP [(h0, .inr (14, [.ref q_801, .int 0, .int 0, .int 0, .int 0, .int 0, .int 0, .ref sa_RX16_9, .int (-1), .int 0, .int 0, .ref q_2001, .ref q_2003, .int 0])), (q_2001, .inl (cA_2002, 16, .inl (fun _ => 0))), (q_2003, .inl (cA_2004, 16, .inl (fun _ => 0)))] H := hP
  have hD : va_D A [(h0, .inr (14, [.ref q_801, .int 0, .int 0, .int 0, .int 0, .int 0, .int 0, .ref sa_RX16_9, .int (-1), .int 0, .int 0, .ref q_2001, .ref q_2003, .int 0])), (q_2001, .inl (cA_2002, 16, .inl (fun _ => 0))), (q_2003, .inl (cA_2004, 16, .inl (fun _ => 0)))] := hD
  refine lv_aload_n hx hb dX16_init_36 rfl (lv_at hl 0 rfl) ?_
  refine lv_iload_n hx hb dX16_init_37 rfl (lv_at hl 2 rfl) ?_
  refine va_putF (D := (dC, dI)) (ci := 14) (v := .int 0) (ty := .int) (C := RX16) (T := TX16) (N := 14) hx hb hts mem_X16_init_0 tyX16 tyX16_ok nmX16 hown hK hP hD hS 0 rfl rfl 1 (by decide) (ow (k := 9) rfl) (fun _ h9 => h9) rfl hin rfl (by decide +kernel) rfl rfl (Nat.le_of_ble_eq_true rfl) dX16_init_38 (fun H locs hP hD hS => ?_)
  have hP : va_P (dC, dI) vwP [(h0, .inr (14, [.ref q_801, .int 0, .int 0, .int 0, .int 0, .int 0, .int 0, .ref sa_RX16_9, .int (-1), .int 0, .int 0, .ref q_2001, .ref q_2003, .int 0])), (q_2001, .inl (cA_2002, 16, .inl (fun _ => 0))), (q_2003, .inl (cA_2004, 16, .inl (fun _ => 0)))] H := hP
  have hD : va_D A [(h0, .inr (14, [.ref q_801, .int 0, .int 0, .int 0, .int 0, .int 0, .int 0, .ref sa_RX16_9, .int (-1), .int 0, .int 0, .ref q_2001, .ref q_2003, .int 0])), (q_2001, .inl (cA_2002, 16, .inl (fun _ => 0))), (q_2003, .inl (cA_2004, 16, .inl (fun _ => 0)))] := hD
  refine lv_aload_n hx hb dX16_init_41 rfl (lv_at hl 0 rfl) ?_
  have hPc := hP.sub (ws' := [(h0, .inr (14, [.ref q_801, .int 0, .int 0, .int 0, .int 0, .int 0, .int 0, .ref sa_RX16_9, .int (-1), .int 0, .int 0, .ref q_2001, .ref q_2003, .int 0]))]) [0] rfl
  have hDc := hD.sub (ws' := [(h0, .inr (14, [.ref q_801, .int 0, .int 0, .int 0, .int 0, .int 0, .int 0, .ref sa_RX16_9, .int (-1), .int 0, .int 0, .ref q_2001, .ref q_2003, .int 0]))]) [0] (by decide) rfl
  have hKc := hK.sub (tys' := []) [] rfl
  have hFc := va_free (wc := [(h0, .inr (14, [.ref q_801, .int 0, .int 0, .int 0, .int 0, .int 0, .int 0, .ref sa_RX16_9, .int (-1), .int 0, .int 0, .ref q_2001, .ref q_2003, .int 0]))]) hD hS hA [0] rfl
  refine va_callv (va_runV (As := []) (rest := []) ⟨hx, hb, hml, hown, hts⟩ (c_X16_next l dC dI h0 q_801 q_2001 q_2003 H.size sa_RX16_9) (cwV 0 hts g_X16_init_X16_next rfl rfl rfl (by decide +kernel) ⟨(Nat.le_of_ble_eq_true rfl), (Nat.le_of_ble_eq_true rfl)⟩) ⟨fun a U g mk q => by obtain ⟨q0, q1, qP, qK, qD, e0⟩ := q; exact ⟨q0, q1, qP, va_K.moved (u := U) (U := U.calling g mk a) (Vm.Alike.refl U.vm) qK, qD, vk_R.same (u := U) (U := U.calling g mk a) rfl e0⟩, va_recv hKc hPc (ci := 14) (q0 := 0) rfl rfl, fun U hU hW => ⟨rfl, by rw [hU], by rw [hU]; exact hPc, va_K.moved hW.alike hKc, hDc.weaken (fun _ _ _ _ => trivial), vk_R.warm hW hp0⟩⟩ rfl rfl hl.1 rfl (lv_room (Nat.le_of_ble_eq_true rfl)) dX16_init_42 ⟨(Nat.le_of_ble_eq_true rfl), (Nat.le_of_ble_eq_true rfl)⟩) hS (fun q _ h => hFc q h) hFc (fun  u t H1 locs ht hvm hw hB hz1 hk1 hS => ?_)
  obtain ⟨hP1, hK1, hD1⟩ := hB
  rw [ht] at hP1
  have hK1 := va_K.moved hvm.symm hK1
  obtain ⟨hP, hD⟩ := va_join (wr := [(q_2001, .inl (cA_2002, 16, .inl (fun _ => 0))), (q_2003, .inl (cA_2004, 16, .inl (fun _ => 0)))]) (w1 := [(h0, .inr (14, [.ref q_801, .int 0, .int 0, .int 0, .int 0, .int 0, .int 0, .ref sa_RX16_9, .int (-1), .int 0, .int 0, .ref q_2001, .ref q_2003, .int 0]))]) hP hD [0] [1, 2] rfl rfl (by decide) (by decide) hk1 hFc hP1 hD1
  have hK := (hK.sub (tys' := [(cA_2002, .int), (cA_2004, .int)]) [0, 1] rfl).app hK1
  generalize H1 = H at hP hS ⊢
  have hP : va_P (dC, dI) vwP [(q_2001, .inl (cA_2002, 16, .inl (fun _ => 0))), (q_2003, .inl (cA_2004, 16, .inl (fun _ => 0))), (h0, .inr (14, [.ref q_801, .int 0, .int 0, .int 0, .int 0, .int 0, .int 0, .ref sa_RX16_9, .int (-1), .int 0, .int 0, .ref q_2001, .ref q_2003, .int 0]))] H := hP
  have hD : va_D A [(q_2001, .inl (cA_2002, 16, .inl (fun _ => 0))), (q_2003, .inl (cA_2004, 16, .inl (fun _ => 0))), (h0, .inr (14, [.ref q_801, .int 0, .int 0, .int 0, .int 0, .int 0, .int 0, .ref sa_RX16_9, .int (-1), .int 0, .int 0, .ref q_2001, .ref q_2003, .int 0]))] := hD
  have hK : va_K (dC, dI) vwP [(cA_2002, .int), (cA_2004, .int)] s := hK
  refine W.widen (k := 2) (n := 32) (Nat.le_of_ble_eq_true rfl) (Nat.le_of_ble_eq_true rfl) ?_
  have hP := hP.sub (ws' := [(h0, .inr (14, [.ref q_801, .int 0, .int 0, .int 0, .int 0, .int 0, .int 0, .ref sa_RX16_9, .int (-1), .int 0, .int 0, .ref q_2001, .ref q_2003, .int 0]))]) [2] rfl
  have hD := hD.sub (ws' := [(h0, .inr (14, [.ref q_801, .int 0, .int 0, .int 0, .int 0, .int 0, .int 0, .ref sa_RX16_9, .int (-1), .int 0, .int 0, .ref q_2001, .ref q_2003, .int 0]))]) [2] (by decide) rfl
  have hK := hK.sub (tys' := []) [] rfl
  refine W.widen (k := 2) (n := 32) (Nat.le_of_ble_eq_true rfl) (Nat.le_of_ble_eq_true rfl) ?_
  exact W.vret hx hb hr (fun t ht hW => ⟨⟨(), rfl, trivial, q_2001, q_2003, by rw [ht]; exact hP, va_K.moved hW.alike hK, hD⟩, hS.F ht⟩) hS.2.2 dX16_init_45
theorem dX13_begin_0 : decode cX13_begin 0 = .ok (.aload_n 0, 1) := by decide +kernel
theorem dX13_begin_1 : decode cX13_begin 1 = .ok (.iconst 0, 1) := by decide +kernel
theorem dX13_begin_2 : decode cX13_begin 2 = .ok (.putfield 25, 3) := by decide +kernel
theorem dX13_begin_5 : decode cX13_begin 5 = .ok (.aload_n 0, 1) := by decide +kernel
theorem dX13_begin_6 : decode cX13_begin 6 = .ok (.iconst 0, 1) := by decide +kernel
theorem dX13_begin_7 : decode cX13_begin 7 = .ok (.putfield 29, 3) := by decide +kernel
theorem dX13_begin_10 : decode cX13_begin 10 = .ok (.aload_n 0, 1) := by decide +kernel
theorem dX13_begin_11 : decode cX13_begin 11 = .ok (.getfield 22, 3) := by decide +kernel
theorem dX13_begin_14 : decode cX13_begin 14 = .ok (.invokevirtual 32, 3) := by decide +kernel
theorem dX13_begin_17 : decode cX13_begin 17 = .ok (.aload_n 0, 1) := by decide +kernel
theorem dX13_begin_18 : decode cX13_begin 18 = .ok (.iconst 0, 1) := by decide +kernel
theorem dX13_begin_19 : decode cX13_begin 19 = .ok (.putfield 35, 3) := by decide +kernel
theorem dX13_begin_22 : decode cX13_begin 22 = .ok (.return_, 1) := by decide +kernel
def o_X13_begin : List Cond := [.fieldLink RX13 25 "SsaForgeModel$Code" "rowN" "I", .fieldLink RX13 29 "SsaForgeModel$Code" "phiN" "I", .fieldLink RX13 22 "SsaForgeModel$Code" "all" "Ljava/util/ArrayList;", .methodLink RX13 32 yJx4a65c_clear_da8c8, .instanceMethod yJx4a65c_clear_da8c8, .selects RJx4a65c yJx4a65c_clear_da8c8 yJx4a65c_clear_da8c8, .initialized RJx4a65c, .fieldLink RX13 35 "SsaForgeModel$Code" "made" "I"]
def v_X13_begin : List Cond := .code yX13_begin cX13_begin 1 none :: (o_X13_begin ++ (wsX130 ++ (v_AL_clear ++ [])))
theorem mow_X13_begin : ∀ w ∈ o_X13_begin, w ∈ v_X13_begin := fun _ h => List.mem_cons_of_mem _ (List.mem_append_left _ h)
theorem mem_X13_begin_0 : ∀ w ∈ wsX130, w ∈ v_X13_begin := fun _ h => List.mem_cons_of_mem _ (List.mem_append_right _ (List.mem_append_left _ h))
theorem mem_X13_begin_1 : ∀ w ∈ v_AL_clear, w ∈ v_X13_begin := fun _ h => List.mem_cons_of_mem _ (List.mem_append_right _ (List.mem_append_right _ (List.mem_append_left _ h)))
set_option maxRecDepth 20000 in
theorem gw_X13_begin : v_X13_begin.all goodWord = true := by decide +kernel
set_option maxRecDepth 20000 in
theorem g_X13_begin_AL_clear : GoodIn v_X13_begin (wsV RX13 32 RJx4a65c yJx4a65c_clear_da8c8 v_AL_clear) := goodIn_app (goodIn_sub (fun w h => mow_X13_begin w (by revert w h; decide +kernel)) (by decide +kernel)) (goodIn_sub mem_X13_begin_1 gw_AL_clear)
set_option maxHeartbeats 4000000 in
set_option maxRecDepth 100000 in
theorem c_X13_begin (l : Launch) (dC : Nat → ClassId) (dI : Nat → Nat → Nat) (q_17 : Nat) (q_18 : Nat) (q_19 : Nat) (q_20 : Nat) (q_21 : Nat) (sx_ed : Nat) (sz : Nat) : Met l yX13_begin v_X13_begin ({ frames := 1, cells := 0, slots := 0, locals := 23 }) (va_Pc [.ref q_17] (fun U => U.heap.size = sz ∧ va_P (dC, dI) vwP [(q_17, .inr (12, [.ref q_18, .ref q_19, .ref q_20, .int 0, .int 0, .ref q_21, .int 0])), (q_21, .inr (18, [.int 0, .ref sx_ed, .int 0]))] U.heap ∧ va_K (dC, dI) vwP [] U ∧ va_D (fun _ => True) [(q_17, .inr (12, [.ref q_18, .ref q_19, .ref q_20, .int 0, .int 0, .ref q_21, .int 0])), (q_21, .inr (18, [.int 0, .ref sx_ed, .int 0]))])) (va_Qv (fun _ : Unit => True) (fun (_ : Unit) (t : State) => va_P (dC, dI) vwP [(q_17, .inr (12, [.ref q_18, .ref q_19, .ref q_20, .int 0, .int 0, .ref q_21, .int 0])), (q_21, .inr (18, [.int 1, .ref sx_ed, .int 0]))] t.heap ∧ va_K (dC, dI) vwP [] t ∧ va_D (va_A [(q_17, .inr (12, [.ref q_18, .ref q_19, .ref q_20, .int 0, .int 0, .ref q_21, .int 0])), (q_21, .inr (18, [.int 0, .ref sx_ed, .int 0]))] sz) [(q_17, .inr (12, [.ref q_18, .ref q_19, .ref q_20, .int 0, .int 0, .ref q_21, .int 0])), (q_21, .inr (18, [.int 1, .ref sx_ed, .int 0]))]) (va_A [(q_17, .inr (12, [.ref q_18, .ref q_19, .ref q_20, .int 0, .int 0, .ref q_21, .int 0])), (q_21, .inr (18, [.int 0, .ref sx_ed, .int 0]))] sz)) 0 0 (va_A [(q_17, .inr (12, [.ref q_18, .ref q_19, .ref q_20, .int 0, .int 0, .ref q_21, .int 0])), (q_21, .inr (18, [.int 0, .ref sx_ed, .int 0]))] sz) := by
  refine Met.ofW (cc := cX13_begin) (maxL := 1) (ret := none) (by decide) rfl ?_
  intro p e s m args below meth c s₁ B hml hv
  obtain ⟨rfl, hsz, hP, hK, hD0⟩ := hv
  have hx := B.exec
  have hb := B.bytes
  have hr := B.returns
  have hts := atoms_spec (ws := v_X13_begin) B.pre
  have hown : s.vm.findClass RX13 = some m.cls := findClass_of_methodNamed B.named
  have hlocks := B.notSynchronized
  have ow : ∀ {k : Nat} {w : Cond}, o_X13_begin[k]? = some w → w.before ([.ref q_17] : List Value).toArray s = true := fun h => hts _ (mow_X13_begin _ (List.mem_of_getElem? h))
  subst hsz
  have hD := hD0.self (sz := s.heap.size)
  generalize hAe : va_A [(q_17, .inr (12, [.ref q_18, .ref q_19, .ref q_20, .int 0, .int 0, .ref q_21, .int 0])), (q_21, .inr (18, [.int 0, .ref sx_ed, .int 0]))] s.heap.size = A at hD ⊢
  have hA : ∀ q : Nat, s.heap.size ≤ q → A q := fun q h => by rw [← hAe]; exact Or.inr h
  have hS : va_S A s.heap s.heap [] := va_S.rf
  have hP : va_P (dC, dI) vwP [(q_17, .inr (12, [.ref q_18, .ref q_19, .ref q_20, .int 0, .int 0, .ref q_21, .int 0])), (q_21, .inr (18, [.int 0, .ref sx_ed, .int 0]))] s.heap := hP
  have hl := lv_entry ([.ref q_17]) (n := 1) (Nat.le_of_ble_eq_true rfl)
  rw [lg_entry_eq]
  generalize (lg_sl ([.ref q_17]) ++ List.replicate (1 - (lg_sl ([.ref q_17])).length) Slot.unset).toArray = ls at hl ⊢
  have hl : lv_has ls 1 [(0, .ref q_17)] := hl
  obtain ⟨H, hH⟩ : ∃ H, H = s.heap := ⟨_, rfl⟩
  rw [← hH] at hP
  have hS : va_S A s.heap H [] := by rw [hH]; exact hS
  rw [← hH]
  refine lv_aload_n hx hb dX13_begin_0 rfl (lv_at hl 0 rfl) ?_
  refine lv_iconst (v := 0) hx hb dX13_begin_1 (by decide) ?_
  refine va_put (D := (dC, dI)) (ci := 12) (v := .int 0) (ty := .int) (C := RX13) (T := TX13) (N := 7) hx hb hts mem_X13_begin_0 tyX13 tyX13_ok nmX13 hown hK hP hD hS 0 rfl rfl 3 (by decide) (ow (k := 0) rfl) (fun _ h9 => h9) rfl (by decide +kernel) rfl rfl (Nat.le_of_ble_eq_true rfl) dX13_begin_2 (fun H locs hP hD hS => ?_)
  have hP : va_P (dC, dI) vwP [(q_17, .inr (12, [.ref q_18, .ref q_19, .ref q_20, .int 0, .int 0, .ref q_21, .int 0])), (q_21, .inr (18, [.int 0, .ref sx_ed, .int 0]))] H := hP
  have hD : va_D A [(q_17, .inr (12, [.ref q_18, .ref q_19, .ref q_20, .int 0, .int 0, .ref q_21, .int 0])), (q_21, .inr (18, [.int 0, .ref sx_ed, .int 0]))] := hD
  refine lv_aload_n hx hb dX13_begin_5 rfl (lv_at hl 0 rfl) ?_
  refine lv_iconst (v := 0) hx hb dX13_begin_6 (by decide) ?_
  refine va_put (D := (dC, dI)) (ci := 12) (v := .int 0) (ty := .int) (C := RX13) (T := TX13) (N := 7) hx hb hts mem_X13_begin_0 tyX13 tyX13_ok nmX13 hown hK hP hD hS 0 rfl rfl 4 (by decide) (ow (k := 1) rfl) (fun _ h9 => h9) rfl (by decide +kernel) rfl rfl (Nat.le_of_ble_eq_true rfl) dX13_begin_7 (fun H locs hP hD hS => ?_)
  have hP : va_P (dC, dI) vwP [(q_17, .inr (12, [.ref q_18, .ref q_19, .ref q_20, .int 0, .int 0, .ref q_21, .int 0])), (q_21, .inr (18, [.int 0, .ref sx_ed, .int 0]))] H := hP
  have hD : va_D A [(q_17, .inr (12, [.ref q_18, .ref q_19, .ref q_20, .int 0, .int 0, .ref q_21, .int 0])), (q_21, .inr (18, [.int 0, .ref sx_ed, .int 0]))] := hD
  refine lv_aload_n hx hb dX13_begin_10 rfl (lv_at hl 0 rfl) ?_
  refine va_get (D := (dC, dI)) (ci := 12) (v := .ref q_21) (C := RX13) (T := TX13) (N := 7) hx hb hts mem_X13_begin_0 hown hK hP 0 rfl rfl 5 (by decide) (ow (k := 2) rfl) (fun _ h9 => h9) rfl dX13_begin_11 ?_
  have hPc := hP.sub (ws' := [(q_21, .inr (18, [.int 0, .ref sx_ed, .int 0]))]) [1] rfl
  have hDc := hD.sub (ws' := [(q_21, .inr (18, [.int 0, .ref sx_ed, .int 0]))]) [1] (by decide) rfl
  have hKc := hK.sub (tys' := []) [] rfl
  have hFc := va_free (wc := [(q_21, .inr (18, [.int 0, .ref sx_ed, .int 0]))]) hD hS hA [1] rfl
  refine va_callv (va_runV (As := []) (rest := []) ⟨hx, hb, hml, hown, hts⟩ (c_AL_clear l dC dI q_21 sx_ed H.size) (cwV 0 hts g_X13_begin_AL_clear rfl rfl rfl (by decide +kernel) ⟨(Nat.le_of_ble_eq_true rfl), (Nat.le_of_ble_eq_true rfl)⟩) ⟨fun a U g mk q => by obtain ⟨q0, q1, qP, qK, qD⟩ := q; exact ⟨q0, q1, qP, va_K.moved (u := U) (U := U.calling g mk a) (Vm.Alike.refl U.vm) qK, qD⟩, va_recv hKc hPc (ci := 18) (q0 := 0) rfl rfl, fun U hU hW => ⟨rfl, by rw [hU], by rw [hU]; exact hPc, va_K.moved hW.alike hKc, hDc.weaken (fun _ _ _ _ => trivial)⟩⟩ rfl rfl hl.1 rfl (lv_room (Nat.le_of_ble_eq_true rfl)) dX13_begin_14 ⟨(Nat.le_of_ble_eq_true rfl), (Nat.le_of_ble_eq_true rfl)⟩) hS (fun q _ h => hFc q h) hFc (fun  u t H1 locs ht hvm hw hB hz1 hk1 hS => ?_)
  obtain ⟨hP1, hK1, hD1⟩ := hB
  rw [ht] at hP1
  have hK1 := va_K.moved hvm.symm hK1
  obtain ⟨hP, hD⟩ := va_join (wr := [(q_17, .inr (12, [.ref q_18, .ref q_19, .ref q_20, .int 0, .int 0, .ref q_21, .int 0]))]) (w1 := [(q_21, .inr (18, [.int 1, .ref sx_ed, .int 0]))]) hP hD [1] [0] rfl rfl (by decide) (by decide) hk1 hFc hP1 hD1
  have hK := (hK.sub (tys' := []) [] rfl).app hK1
  generalize H1 = H at hP hS ⊢
  have hP : va_P (dC, dI) vwP [(q_17, .inr (12, [.ref q_18, .ref q_19, .ref q_20, .int 0, .int 0, .ref q_21, .int 0])), (q_21, .inr (18, [.int 1, .ref sx_ed, .int 0]))] H := hP
  have hD : va_D A [(q_17, .inr (12, [.ref q_18, .ref q_19, .ref q_20, .int 0, .int 0, .ref q_21, .int 0])), (q_21, .inr (18, [.int 1, .ref sx_ed, .int 0]))] := hD
  have hK : va_K (dC, dI) vwP [] s := hK
  refine W.widen (k := 0) (n := 0) (Nat.le_of_ble_eq_true rfl) (Nat.le_of_ble_eq_true rfl) ?_
  refine lv_aload_n hx hb dX13_begin_17 rfl (lv_at hl 0 rfl) ?_
  refine lv_iconst (v := 0) hx hb dX13_begin_18 (by decide) ?_
  refine va_put (D := (dC, dI)) (ci := 12) (v := .int 0) (ty := .int) (C := RX13) (T := TX13) (N := 7) hx hb hts mem_X13_begin_0 tyX13 tyX13_ok nmX13 hown hK hP hD hS 0 rfl rfl 6 (by decide) (ow (k := 7) rfl) (fun _ h9 => h9) rfl (by decide +kernel) rfl rfl (Nat.le_of_ble_eq_true rfl) dX13_begin_19 (fun H locs hP hD hS => ?_)
  have hP : va_P (dC, dI) vwP [(q_17, .inr (12, [.ref q_18, .ref q_19, .ref q_20, .int 0, .int 0, .ref q_21, .int 0])), (q_21, .inr (18, [.int 1, .ref sx_ed, .int 0]))] H := hP
  have hD : va_D A [(q_17, .inr (12, [.ref q_18, .ref q_19, .ref q_20, .int 0, .int 0, .ref q_21, .int 0])), (q_21, .inr (18, [.int 1, .ref sx_ed, .int 0]))] := hD
  refine W.widen (k := 0) (n := 0) (Nat.le_of_ble_eq_true rfl) (Nat.le_of_ble_eq_true rfl) ?_
  exact W.vret hx hb hr (fun t ht hW => ⟨⟨(), rfl, trivial, by rw [ht]; exact hP, va_K.moved hW.alike hK, hD⟩, hS.F ht⟩) hS.2.2 dX13_begin_22
theorem dX16_no_0 : decode cX16_no 0 = .ok (.new 124, 3) := by decide +kernel
theorem dX16_no_3 : decode cX16_no 3 = .ok (.dup, 1) := by decide +kernel
theorem dX16_no_4 : decode cX16_no 4 = .ok (.aload_n 0, 1) := by decide +kernel
theorem dX16_no_5 : decode cX16_no 5 = .ok (.getfield 47, 3) := by decide +kernel
theorem dX16_no_8 : decode cX16_no 8 = .ok (.invokespecial 126, 3) := by decide +kernel
theorem dX16_no_11 : decode cX16_no 11 = .ok (.areturn, 1) := by decide +kernel
def o_X16_no : List Cond := [.classLink RX16 124 RX18, .instantiable RX18 7, .initialized RX18, .fieldLink RX16 47 "SsaForgeModel$Reader" "place" "I", .methodLink RX16 126 yX18_init, .instanceMethod yX18_init]
def v_X16_no : List Cond := .code yX16_no cX16_no 1 (some (.object "SsaForgeModel$Wrong")) :: (o_X16_no ++ (wsX180 ++ (wsX160 ++ (v_X18_init ++ []))))
theorem mow_X16_no : ∀ w ∈ o_X16_no, w ∈ v_X16_no := fun _ h => List.mem_cons_of_mem _ (List.mem_append_left _ h)
theorem mem_X16_no_0 : ∀ w ∈ wsX180, w ∈ v_X16_no := fun _ h => List.mem_cons_of_mem _ (List.mem_append_right _ (List.mem_append_left _ h))
theorem mem_X16_no_1 : ∀ w ∈ wsX160, w ∈ v_X16_no := fun _ h => List.mem_cons_of_mem _ (List.mem_append_right _ (List.mem_append_right _ (List.mem_append_left _ h)))
theorem mem_X16_no_2 : ∀ w ∈ v_X18_init, w ∈ v_X16_no := fun _ h => List.mem_cons_of_mem _ (List.mem_append_right _ (List.mem_append_right _ (List.mem_append_right _ (List.mem_append_left _ h))))
set_option maxRecDepth 20000 in
theorem gw_X16_no : v_X16_no.all goodWord = true := by decide +kernel
set_option maxHeartbeats 4000000 in
set_option maxRecDepth 100000 in
theorem c_X16_no (l : Launch) (dC : Nat → ClassId) (dI : Nat → Nat → Nat) (h0 : Nat) (q_801 : Nat) (q_803 : Nat) (q_804 : Nat) (sa_RX16_9 : Nat) (sz : Nat) : Met l yX16_no v_X16_no ({ frames := 5, cells := 1, slots := 7, locals := 105 }) (va_Pc [.ref h0] (fun U => U.heap.size = sz ∧ va_P (dC, dI) vwP [(h0, .inr (14, [.ref q_801, .int 0, .int 0, .int 0, .int 0, .int 0, .int 0, .ref sa_RX16_9, .int (-1), .int 0, .int 0, .ref q_803, .ref q_804, .int 0]))] U.heap ∧ va_K (dC, dI) vwP [] U ∧ va_D (fun _ => True) [(h0, .inr (14, [.ref q_801, .int 0, .int 0, .int 0, .int 0, .int 0, .int 0, .ref sa_RX16_9, .int (-1), .int 0, .int 0, .ref q_803, .ref q_804, .int 0]))] ∧ vx_Zq Bundle.tN "UNASSIGNED_STACK" Bundle.steD (va_A [(h0, .inr (14, [.ref q_801, .int 0, .int 0, .int 0, .int 0, .int 0, .int 0, .ref sa_RX16_9, .int (-1), .int 0, .int 0, .ref q_803, .ref q_804, .int 0]))] sz) U U.heap ∧ vx_Zq Bundle.tN "SUPPRESSED_SENTINEL" Bundle.listD (va_A [(h0, .inr (14, [.ref q_801, .int 0, .int 0, .int 0, .int 0, .int 0, .int 0, .ref sa_RX16_9, .int (-1), .int 0, .int 0, .ref q_803, .ref q_804, .int 0]))] sz) U U.heap)) (va_Qr (fun _ : Unit => True) (fun (_ : Unit) (q_2001 : Nat) (t : State) => va_P (dC, dI) vwP [(h0, .inr (14, [.ref q_801, .int 0, .int 0, .int 0, .int 0, .int 0, .int 0, .ref sa_RX16_9, .int (-1), .int 0, .int 0, .ref q_803, .ref q_804, .int 0])), (q_2001, .inr (15, [.null, .null, .null, .null, .null, .int 0, .int 0]))] t.heap ∧ va_K (dC, dI) vwP [] t ∧ va_D (va_A [(h0, .inr (14, [.ref q_801, .int 0, .int 0, .int 0, .int 0, .int 0, .int 0, .ref sa_RX16_9, .int (-1), .int 0, .int 0, .ref q_803, .ref q_804, .int 0]))] sz) [(h0, .inr (14, [.ref q_801, .int 0, .int 0, .int 0, .int 0, .int 0, .int 0, .ref sa_RX16_9, .int (-1), .int 0, .int 0, .ref q_803, .ref q_804, .int 0])), (q_2001, .inr (15, [.null, .null, .null, .null, .null, .int 0, .int 0]))]) (va_A [(h0, .inr (14, [.ref q_801, .int 0, .int 0, .int 0, .int 0, .int 0, .int 0, .ref sa_RX16_9, .int (-1), .int 0, .int 0, .ref q_803, .ref q_804, .int 0]))] sz)) 1 7 (va_A [(h0, .inr (14, [.ref q_801, .int 0, .int 0, .int 0, .int 0, .int 0, .int 0, .ref sa_RX16_9, .int (-1), .int 0, .int 0, .ref q_803, .ref q_804, .int 0]))] sz) := by
  refine Met.ofW (cc := cX16_no) (maxL := 1) (ret := (some (.object "SsaForgeModel$Wrong"))) (by decide) rfl ?_
  intro p e s m args below meth c s₁ B hml hv
  obtain ⟨rfl, hsz, hP, hK, hD0, hp0, hp1⟩ := hv
  have hx := B.exec
  have hb := B.bytes
  have hr := B.returns
  have hts := atoms_spec (ws := v_X16_no) B.pre
  have hown : s.vm.findClass RX16 = some m.cls := findClass_of_methodNamed B.named
  have hlocks := B.notSynchronized
  have ow : ∀ {k : Nat} {w : Cond}, o_X16_no[k]? = some w → w.before ([.ref h0] : List Value).toArray s = true := fun h => hts _ (mow_X16_no _ (List.mem_of_getElem? h))
  subst hsz
  have hD := hD0.self (sz := s.heap.size)
  generalize hAe : va_A [(h0, .inr (14, [.ref q_801, .int 0, .int 0, .int 0, .int 0, .int 0, .int 0, .ref sa_RX16_9, .int (-1), .int 0, .int 0, .ref q_803, .ref q_804, .int 0]))] s.heap.size = A at hD hp0 hp1 ⊢
  have hA : ∀ q : Nat, s.heap.size ≤ q → A q := fun q h => by rw [← hAe]; exact Or.inr h
  have hS : va_S A s.heap s.heap [] := va_S.rf
  have hP : va_P (dC, dI) vwP [(h0, .inr (14, [.ref q_801, .int 0, .int 0, .int 0, .int 0, .int 0, .int 0, .ref sa_RX16_9, .int (-1), .int 0, .int 0, .ref q_803, .ref q_804, .int 0]))] s.heap := hP
  have hl := lv_entry ([.ref h0]) (n := 1) (Nat.le_of_ble_eq_true rfl)
  rw [lg_entry_eq]
  generalize (lg_sl ([.ref h0]) ++ List.replicate (1 - (lg_sl ([.ref h0])).length) Slot.unset).toArray = ls at hl ⊢
  have hl : lv_has ls 1 [(0, .ref h0)] := hl
  obtain ⟨H, hH⟩ : ∃ H, H = s.heap := ⟨_, rfl⟩
  rw [← hH] at hP
  have hS : va_S A s.heap H [] := by rw [hH]; exact hS
  rw [← hH]
  refine va_new (ci := 15) (fs := [.null, .null, .null, .null, .null, .int 0, .int 0]) (C := RX18) (T := TX18) (N := 7) hx hb hts mem_X16_no_0 tyX18 tyX18_ok hown (ow (k := 0) rfl) (ow (k := 1) rfl) (ow (k := 2) rfl) hK hP hD hS hA rfl (df_X18) (Nat.le_of_ble_eq_true rfl) (Nat.le_of_ble_eq_true rfl) dX16_no_0 (fun q_2001 H hP hD hS => ?_)
  have hP : va_P (dC, dI) vwP [(h0, .inr (14, [.ref q_801, .int 0, .int 0, .int 0, .int 0, .int 0, .int 0, .ref sa_RX16_9, .int (-1), .int 0, .int 0, .ref q_803, .ref q_804, .int 0])), (q_2001, .inr (15, [.null, .null, .null, .null, .null, .int 0, .int 0]))] H := hP
  have hD : va_D A [(h0, .inr (14, [.ref q_801, .int 0, .int 0, .int 0, .int 0, .int 0, .int 0, .ref sa_RX16_9, .int (-1), .int 0, .int 0, .ref q_803, .ref q_804, .int 0])), (q_2001, .inr (15, [.null, .null, .null, .null, .null, .int 0, .int 0]))] := hD
  refine W.widen (k := 1) (n := 7) (Nat.le_of_ble_eq_true rfl) (Nat.le_of_ble_eq_true rfl) ?_
  refine lv_dup hx hb dX16_no_3 rfl ?_
  refine lv_aload_n hx hb dX16_no_4 rfl (lv_at hl 0 rfl) ?_
  refine va_get (D := (dC, dI)) (ci := 14) (v := .int 0) (C := RX16) (T := TX16) (N := 14) hx hb hts mem_X16_no_1 hown hK hP 0 rfl rfl 4 (by decide) (ow (k := 3) rfl) (fun _ h9 => h9) rfl dX16_no_5 ?_
  have hPc := hP.sub (ws' := [(q_2001, .inr (15, [.null, .null, .null, .null, .null, .int 0, .int 0]))]) [1] rfl
  have hDc := hD.sub (ws' := [(q_2001, .inr (15, [.null, .null, .null, .null, .null, .int 0, .int 0]))]) [1] (by decide) rfl
  have hKc := hK.sub (tys' := []) [] rfl
  have hFc := va_free (wc := [(q_2001, .inr (15, [.null, .null, .null, .null, .null, .int 0, .int 0]))]) hD hS hA [1] rfl
  refine va_callv (va_runI (As := [.int 0]) (rest := [.ref q_2001]) ⟨hx, hb, hml, hown, hts⟩ (c_X18_init l dC dI q_2001 H.size) (cwI 1 hts (goodIn_sub mem_X16_no_2 gw_X18_init) rfl rfl rfl (ow (k := 2) rfl) (ow (k := 4) rfl) (ow (k := 5) rfl) rfl (by decide +kernel) ⟨(Nat.le_of_ble_eq_true rfl), (Nat.le_of_ble_eq_true rfl)⟩) ⟨fun a U g mk q => by obtain ⟨q0, q1, qP, qK, qD, e0, e1⟩ := q; exact ⟨q0, q1, qP, va_K.moved (u := U) (U := U.calling g mk a) (Vm.Alike.refl U.vm) qK, qD, vx_Zq.moved (u := U) (U := U.calling g mk a) (Vm.Alike.refl U.vm) e0, vx_Zq.moved (u := U) (U := U.calling g mk a) (Vm.Alike.refl U.vm) e1⟩, fun U hU hW => ⟨rfl, by rw [hU], by rw [hU]; exact hPc, va_K.moved hW.alike hKc, hDc.weaken (fun _ _ _ _ => trivial), by rw [hU]; exact vx_Zq.narrow (vx_Zq.moved hW.alike (vx_Zq.kept hp0 hS.2.1)) hFc, by rw [hU]; exact vx_Zq.narrow (vx_Zq.moved hW.alike (vx_Zq.kept hp1 hS.2.1)) hFc⟩⟩ rfl rfl hl.1 rfl (lv_room (Nat.le_of_ble_eq_true rfl)) dX16_no_8 ⟨(Nat.le_of_ble_eq_true rfl), (Nat.le_of_ble_eq_true rfl)⟩) hS (fun q _ h => hFc q h) hFc (fun  u t H1 locs ht hvm hw hB hz1 hk1 hS => ?_)
  obtain ⟨hP1, hK1, hD1⟩ := hB
  rw [ht] at hP1
  have hK1 := va_K.moved hvm.symm hK1
  obtain ⟨hP, hD⟩ := va_join (wr := [(h0, .inr (14, [.ref q_801, .int 0, .int 0, .int 0, .int 0, .int 0, .int 0, .ref sa_RX16_9, .int (-1), .int 0, .int 0, .ref q_803, .ref q_804, .int 0]))]) (w1 := [(q_2001, .inr (15, [.null, .null, .null, .null, .null, .int 0, .int 0]))]) hP hD [1] [0] rfl rfl (by decide) (by decide) hk1 hFc hP1 hD1
  have hK := (hK.sub (tys' := []) [] rfl).app hK1
  generalize H1 = H at hP hS ⊢
  have hP : va_P (dC, dI) vwP [(h0, .inr (14, [.ref q_801, .int 0, .int 0, .int 0, .int 0, .int 0, .int 0, .ref sa_RX16_9, .int (-1), .int 0, .int 0, .ref q_803, .ref q_804, .int 0])), (q_2001, .inr (15, [.null, .null, .null, .null, .null, .int 0, .int 0]))] H := hP
  have hD : va_D A [(h0, .inr (14, [.ref q_801, .int 0, .int 0, .int 0, .int 0, .int 0, .int 0, .ref sa_RX16_9, .int (-1), .int 0, .int 0, .ref q_803, .ref q_804, .int 0])), (q_2001, .inr (15, [.null, .null, .null, .null, .null, .int 0, .int 0]))] := hD
  have hK : va_K (dC, dI) vwP [] s := hK
  refine W.widen (k := 1) (n := 7) (Nat.le_of_ble_eq_true rfl) (Nat.le_of_ble_eq_true rfl) ?_
  refine W.widen (k := 1) (n := 7) (Nat.le_of_ble_eq_true rfl) (Nat.le_of_ble_eq_true rfl) ?_
  exact W.aret (v := .ref q_2001) hx hb hr (Or.inl ⟨_, rfl⟩) (Or.inr ⟨_, rfl⟩) (fun t ht hW => ⟨⟨(), q_2001, rfl, trivial, by rw [ht]; exact hP, va_K.moved hW.alike hK, hD⟩, hS.F ht⟩) hS.2.2 dX16_no_11
theorem dX16_want__0 : decode cX16_want_ 0 = .ok (.aload_n 0, 1) := by decide +kernel
theorem dX16_want__1 : decode cX16_want_ 1 = .ok (.getfield 38, 3) := by decide +kernel
theorem dX16_want__4 : decode cX16_want_ 4 = .ok (.iload_n 1, 1) := by decide +kernel
theorem dX16_want__5 : decode cX16_want_ 5 = .ok (.if_icmp .eq 8, 3) := by decide +kernel
theorem dX16_want__8 : decode cX16_want_ 8 = .ok (.aload_n 0, 1) := by decide +kernel
theorem dX16_want__9 : decode cX16_want_ 9 = .ok (.invokevirtual 136, 3) := by decide +kernel
theorem dX16_want__12 : decode cX16_want_ 12 = .ok (.athrow, 1) := by decide +kernel
def o_X16_want : List Cond := [.fieldLink RX16 38 "SsaForgeModel$Reader" "kind" "I", .methodLink RX16 136 yX16_no, .instanceMethod yX16_no, .selects RX16 yX16_no yX16_no, .initialized RX16]
def v_X16_want : List Cond := .code yX16_want_ cX16_want_ 3 (some .int) :: (o_X16_want ++ (wsX160 ++ (v_X16_no ++ [])))
theorem mow_X16_want : ∀ w ∈ o_X16_want, w ∈ v_X16_want := fun _ h => List.mem_cons_of_mem _ (List.mem_append_left _ h)
theorem mem_X16_want_0 : ∀ w ∈ wsX160, w ∈ v_X16_want := fun _ h => List.mem_cons_of_mem _ (List.mem_append_right _ (List.mem_append_left _ h))
theorem mem_X16_want_1 : ∀ w ∈ v_X16_no, w ∈ v_X16_want := fun _ h => List.mem_cons_of_mem _ (List.mem_append_right _ (List.mem_append_right _ (List.mem_append_left _ h)))
set_option maxRecDepth 20000 in
theorem gw_X16_want : v_X16_want.all goodWord = true := by decide +kernel
set_option maxRecDepth 20000 in
theorem g_X16_want_X16_no : GoodIn v_X16_want (wsV RX16 136 RX16 yX16_no v_X16_no) := goodIn_app (goodIn_sub (fun w h => mow_X16_want w (by revert w h; decide +kernel)) (by decide +kernel)) (goodIn_sub mem_X16_want_1 gw_X16_no)
set_option maxHeartbeats 4000000 in
set_option maxRecDepth 100000 in
theorem c_X16_want (l : Launch) (dC : Nat → ClassId) (dI : Nat → Nat → Nat) (h0 : Nat) (q_801 : Nat) (q_803 : Nat) (q_804 : Nat) (sa_RX16_9 : Nat) (sz : Nat) : vx_Met l yX16_want_ v_X16_want ({ frames := 6, cells := 1, slots := 7, locals := 125 }) (va_Pc [.ref h0, .int 3] (fun U => U.heap.size = sz ∧ va_P (dC, dI) vwP [(h0, .inr (14, [.ref q_801, .int 0, .int 0, .int 0, .int 0, .int 0, .int 0, .ref sa_RX16_9, .int (-1), .int 0, .int 0, .ref q_803, .ref q_804, .int 0]))] U.heap ∧ va_K (dC, dI) vwP [] U ∧ va_D (fun _ => True) [(h0, .inr (14, [.ref q_801, .int 0, .int 0, .int 0, .int 0, .int 0, .int 0, .ref sa_RX16_9, .int (-1), .int 0, .int 0, .ref q_803, .ref q_804, .int 0]))] ∧ vx_Zq Bundle.tN "UNASSIGNED_STACK" Bundle.steD (va_A [(h0, .inr (14, [.ref q_801, .int 0, .int 0, .int 0, .int 0, .int 0, .int 0, .ref sa_RX16_9, .int (-1), .int 0, .int 0, .ref q_803, .ref q_804, .int 0]))] sz) U U.heap ∧ vx_Zq Bundle.tN "SUPPRESSED_SENTINEL" Bundle.listD (va_A [(h0, .inr (14, [.ref q_801, .int 0, .int 0, .int 0, .int 0, .int 0, .int 0, .ref sa_RX16_9, .int (-1), .int 0, .int 0, .ref q_803, .ref q_804, .int 0]))] sz) U U.heap)) (va_Qi (fun (_ : Int32) (_ : Unit) => False) (fun (_ : Unit) (t : State) => va_P (dC, dI) vwP [] t.heap ∧ va_K (dC, dI) vwP [] t ∧ va_D (va_A [(h0, .inr (14, [.ref q_801, .int 0, .int 0, .int 0, .int 0, .int 0, .int 0, .ref sa_RX16_9, .int (-1), .int 0, .int 0, .ref q_803, .ref q_804, .int 0]))] sz) []) (va_A [(h0, .inr (14, [.ref q_801, .int 0, .int 0, .int 0, .int 0, .int 0, .int 0, .ref sa_RX16_9, .int (-1), .int 0, .int 0, .ref q_803, .ref q_804, .int 0]))] sz)) (vx_X (fun _ : Unit => True) (fun E (q9 : Addr) (_ : Unit) (t9 : State) => (E = RX18 ∧ va_P (dC, dI) vwP [(q9, .inr (15, [.null, .null, .null, .null, .null, .int 0, .int 0]))] t9.heap ∧ va_D (va_A [(h0, .inr (14, [.ref q_801, .int 0, .int 0, .int 0, .int 0, .int 0, .int 0, .ref sa_RX16_9, .int (-1), .int 0, .int 0, .ref q_803, .ref q_804, .int 0]))] sz) [(q9, .inr (15, [.null, .null, .null, .null, .null, .int 0, .int 0]))])) (va_A [(h0, .inr (14, [.ref q_801, .int 0, .int 0, .int 0, .int 0, .int 0, .int 0, .ref sa_RX16_9, .int (-1), .int 0, .int 0, .ref q_803, .ref q_804, .int 0]))] sz)) 1 7 (va_A [(h0, .inr (14, [.ref q_801, .int 0, .int 0, .int 0, .int 0, .int 0, .int 0, .ref sa_RX16_9, .int (-1), .int 0, .int 0, .ref q_803, .ref q_804, .int 0]))] sz) := by
  refine vx_ofW (cc := cX16_want_) (maxL := 3) (ret := (some .int)) (by decide) rfl ?_
  intro p e s m args below meth c s₁ B hml hnt hv
  obtain ⟨rfl, hsz, hP, hK, hD0, hp0, hp1⟩ := hv
  have hx := B.exec
  have hb := B.bytes
  have hr := B.returns
  have hts := atoms_spec (ws := v_X16_want) B.pre
  have hown : s.vm.findClass RX16 = some m.cls := findClass_of_methodNamed B.named
  have hlocks := B.notSynchronized
  have ow : ∀ {k : Nat} {w : Cond}, o_X16_want[k]? = some w → w.before ([.ref h0, .int 3] : List Value).toArray s = true := fun h => hts _ (mow_X16_want _ (List.mem_of_getElem? h))
  subst hsz
  have hD := hD0.self (sz := s.heap.size)
  generalize hAe : va_A [(h0, .inr (14, [.ref q_801, .int 0, .int 0, .int 0, .int 0, .int 0, .int 0, .ref sa_RX16_9, .int (-1), .int 0, .int 0, .ref q_803, .ref q_804, .int 0]))] s.heap.size = A at hD hp0 hp1 ⊢
  have hA : ∀ q : Nat, s.heap.size ≤ q → A q := fun q h => by rw [← hAe]; exact Or.inr h
  have hS : va_S A s.heap s.heap [] := va_S.rf
  have hP : va_P (dC, dI) vwP [(h0, .inr (14, [.ref q_801, .int 0, .int 0, .int 0, .int 0, .int 0, .int 0, .ref sa_RX16_9, .int (-1), .int 0, .int 0, .ref q_803, .ref q_804, .int 0]))] s.heap := hP
  have hl := lv_entry ([.ref h0, .int 3]) (n := 3) (Nat.le_of_ble_eq_true rfl)
  rw [lg_entry_eq]
  generalize (lg_sl ([.ref h0, .int 3]) ++ List.replicate (3 - (lg_sl ([.ref h0, .int 3])).length) Slot.unset).toArray = ls at hl ⊢
  have hl : lv_has ls 3 [(0, .ref h0), (1, .int 3)] := hl
  obtain ⟨H, hH⟩ : ∃ H, H = s.heap := ⟨_, rfl⟩
  rw [← hH] at hP
  have hS : va_S A s.heap H [] := by rw [hH]; exact hS
  rw [← hH]
  refine lv_aload_n hx hb dX16_want__0 rfl (lv_at hl 0 rfl) ?_
  refine va_get (D := (dC, dI)) (ci := 14) (v := .int 0) (C := RX16) (T := TX16) (N := 14) hx hb hts mem_X16_want_0 hown hK hP 0 rfl rfl 3 (by decide) (ow (k := 0) rfl) (fun _ h9 => h9) rfl dX16_want__1 ?_
  refine lv_iload_n hx hb dX16_want__4 rfl (lv_at hl 1 rfl) ?_
  refine lv_icmp_eq (tgt := 13) hx hb dX16_want__5 (by decide) (fun h9 => absurd h9 (by decide)) (fun _ => ?_)
  refine lv_aload_n hx hb dX16_want__8 rfl (lv_at hl 0 rfl) ?_
  have hPc := hP.sub (ws' := [(h0, .inr (14, [.ref q_801, .int 0, .int 0, .int 0, .int 0, .int 0, .int 0, .ref sa_RX16_9, .int (-1), .int 0, .int 0, .ref q_803, .ref q_804, .int 0]))]) [0] rfl
  have hDc := hD.sub (ws' := [(h0, .inr (14, [.ref q_801, .int 0, .int 0, .int 0, .int 0, .int 0, .int 0, .ref sa_RX16_9, .int (-1), .int 0, .int 0, .ref q_803, .ref q_804, .int 0]))]) [0] (by decide) rfl
  have hKc := hK.sub (tys' := []) [] rfl
  have hFc := va_free (wc := [(h0, .inr (14, [.ref q_801, .int 0, .int 0, .int 0, .int 0, .int 0, .int 0, .ref sa_RX16_9, .int (-1), .int 0, .int 0, .ref q_803, .ref q_804, .int 0]))]) hD hS hA [0] rfl
  refine va_callr (va_runV (As := []) (rest := []) ⟨hx, hb, hml, hown, hts⟩ (c_X16_no l dC dI h0 q_801 q_803 q_804 sa_RX16_9 H.size) (cwV 0 hts g_X16_want_X16_no rfl rfl rfl (by decide +kernel) ⟨(Nat.le_of_ble_eq_true rfl), (Nat.le_of_ble_eq_true rfl)⟩) ⟨fun a U g mk q => by obtain ⟨q0, q1, qP, qK, qD, e0, e1⟩ := q; exact ⟨q0, q1, qP, va_K.moved (u := U) (U := U.calling g mk a) (Vm.Alike.refl U.vm) qK, qD, vx_Zq.moved (u := U) (U := U.calling g mk a) (Vm.Alike.refl U.vm) e0, vx_Zq.moved (u := U) (U := U.calling g mk a) (Vm.Alike.refl U.vm) e1⟩, va_recv hKc hPc (ci := 14) (q0 := 0) rfl rfl, fun U hU hW => ⟨rfl, by rw [hU], by rw [hU]; exact hPc, va_K.moved hW.alike hKc, hDc.weaken (fun _ _ _ _ => trivial), by rw [hU]; exact vx_Zq.narrow (vx_Zq.moved hW.alike (vx_Zq.kept hp0 hS.2.1)) hFc, by rw [hU]; exact vx_Zq.narrow (vx_Zq.moved hW.alike (vx_Zq.kept hp1 hS.2.1)) hFc⟩⟩ rfl rfl hl.1 rfl (lv_room (Nat.le_of_ble_eq_true rfl)) dX16_want__9 ⟨(Nat.le_of_ble_eq_true rfl), (Nat.le_of_ble_eq_true rfl)⟩) hS (fun q _ h => hFc q h) hFc (fun u q_2001 t H1 locs ht hvm hw hB hz1 hk1 hS => ?_)
  obtain ⟨hP1, hK1, hD1⟩ := hB
  rw [ht] at hP1
  have hK1 := va_K.moved hvm.symm hK1
  obtain ⟨hP, hD⟩ := va_join (wr := []) (w1 := [(h0, .inr (14, [.ref q_801, .int 0, .int 0, .int 0, .int 0, .int 0, .int 0, .ref sa_RX16_9, .int (-1), .int 0, .int 0, .ref q_803, .ref q_804, .int 0])), (q_2001, .inr (15, [.null, .null, .null, .null, .null, .int 0, .int 0]))]) hP hD [0] [] rfl rfl (by decide) (by decide) hk1 hFc hP1 hD1
  have hK := (hK.sub (tys' := []) [] rfl).app hK1
  generalize H1 = H at hP hS ⊢
  have hP : va_P (dC, dI) vwP [(h0, .inr (14, [.ref q_801, .int 0, .int 0, .int 0, .int 0, .int 0, .int 0, .ref sa_RX16_9, .int (-1), .int 0, .int 0, .ref q_803, .ref q_804, .int 0])), (q_2001, .inr (15, [.null, .null, .null, .null, .null, .int 0, .int 0]))] H := hP
  have hD : va_D A [(h0, .inr (14, [.ref q_801, .int 0, .int 0, .int 0, .int 0, .int 0, .int 0, .ref sa_RX16_9, .int (-1), .int 0, .int 0, .ref q_803, .ref q_804, .int 0])), (q_2001, .inr (15, [.null, .null, .null, .null, .null, .int 0, .int 0]))] := hD
  have hK : va_K (dC, dI) vwP [] s := hK
  refine W.widen (k := 1) (n := 7) (Nat.le_of_ble_eq_true rfl) (Nat.le_of_ble_eq_true rfl) ?_
  obtain ⟨ce9, h91, h92, h93⟩ := vy_cell (C := RX18) (T := TX18) (N := 7) hK hP (k := 1) rfl rfl
  have hP := hP.sub (ws' := [(q_2001, .inr (15, [.null, .null, .null, .null, .null, .int 0, .int 0]))]) [1] rfl
  have hD := hD.sub (ws' := [(q_2001, .inr (15, [.null, .null, .null, .null, .null, .int 0, .int 0]))]) [1] (by decide) rfl
  exact vy_athrow hx hb (fun x9 h9 => (hnt x9 h9).elim) hlocks h91 h92 h93 (fun t ht hvm => ⟨(), trivial, ⟨rfl, by rw [ht]; exact hP, hD⟩, hS.F ht⟩) hS.2.2 (Nat.le_of_ble_eq_true rfl) (Nat.le_of_ble_eq_true rfl) dX16_want__12
theorem dX16_block_0 : decode cX16_block 0 = .ok (.aload_n 0, 1) := by decide +kernel
theorem dX16_block_1 : decode cX16_block 1 = .ok (.getfield 47, 3) := by decide +kernel
theorem dX16_block_4 : decode cX16_block 4 = .ok (.istore_n 2, 1) := by decide +kernel
theorem dX16_block_5 : decode cX16_block 5 = .ok (.aload_n 0, 1) := by decide +kernel
theorem dX16_block_6 : decode cX16_block 6 = .ok (.iconst 3, 1) := by decide +kernel
theorem dX16_block_7 : decode cX16_block 7 = .ok (.invokevirtual 152, 3) := by decide +kernel
def o_X16_block : List Cond := [.fieldLink RX16 47 "SsaForgeModel$Reader" "place" "I", .methodLink RX16 152 yX16_want_, .instanceMethod yX16_want_, .selects RX16 yX16_want_ yX16_want_, .initialized RX16]
def v_X16_block : List Cond := .code yX16_block cX16_block 6 none :: (o_X16_block ++ (wsX160 ++ (v_X16_want ++ [])))
theorem mow_X16_block : ∀ w ∈ o_X16_block, w ∈ v_X16_block := fun _ h => List.mem_cons_of_mem _ (List.mem_append_left _ h)
theorem mem_X16_block_0 : ∀ w ∈ wsX160, w ∈ v_X16_block := fun _ h => List.mem_cons_of_mem _ (List.mem_append_right _ (List.mem_append_left _ h))
theorem mem_X16_block_1 : ∀ w ∈ v_X16_want, w ∈ v_X16_block := fun _ h => List.mem_cons_of_mem _ (List.mem_append_right _ (List.mem_append_right _ (List.mem_append_left _ h)))
set_option maxRecDepth 20000 in
theorem gw_X16_block : v_X16_block.all goodWord = true := by decide +kernel
set_option maxRecDepth 20000 in
theorem g_X16_block_X16_want : GoodIn v_X16_block (wsV RX16 152 RX16 yX16_want_ v_X16_want) := goodIn_app (goodIn_sub (fun w h => mow_X16_block w (by revert w h; decide +kernel)) (by decide +kernel)) (goodIn_sub mem_X16_block_1 gw_X16_want)
set_option maxHeartbeats 4000000 in
set_option maxRecDepth 100000 in
theorem c_X16_block (l : Launch) (dC : Nat → ClassId) (dI : Nat → Nat → Nat) (h0 : Nat) (q_801 : Nat) (q_803 : Nat) (q_804 : Nat) (sa_RX16_9 : Nat) (q_805 : Nat) (sz : Nat) : vx_Met l yX16_block v_X16_block ({ frames := 7, cells := 1, slots := 7, locals := 147 }) (va_Pc [.ref h0, .ref q_805] (fun U => U.heap.size = sz ∧ va_P (dC, dI) vwP [(h0, .inr (14, [.ref q_801, .int 0, .int 0, .int 0, .int 0, .int 0, .int 0, .ref sa_RX16_9, .int (-1), .int 0, .int 0, .ref q_803, .ref q_804, .int 0]))] U.heap ∧ va_K (dC, dI) vwP [] U ∧ va_D (fun _ => True) [(h0, .inr (14, [.ref q_801, .int 0, .int 0, .int 0, .int 0, .int 0, .int 0, .ref sa_RX16_9, .int (-1), .int 0, .int 0, .ref q_803, .ref q_804, .int 0]))] ∧ vx_Zq Bundle.tN "UNASSIGNED_STACK" Bundle.steD (va_A [(h0, .inr (14, [.ref q_801, .int 0, .int 0, .int 0, .int 0, .int 0, .int 0, .ref sa_RX16_9, .int (-1), .int 0, .int 0, .ref q_803, .ref q_804, .int 0]))] sz) U U.heap ∧ vx_Zq Bundle.tN "SUPPRESSED_SENTINEL" Bundle.listD (va_A [(h0, .inr (14, [.ref q_801, .int 0, .int 0, .int 0, .int 0, .int 0, .int 0, .ref sa_RX16_9, .int (-1), .int 0, .int 0, .ref q_803, .ref q_804, .int 0]))] sz) U U.heap)) (va_Qv (fun _ : Unit => False) (fun (_ : Unit) (t : State) => va_P (dC, dI) vwP [] t.heap ∧ va_K (dC, dI) vwP [] t ∧ va_D (va_A [(h0, .inr (14, [.ref q_801, .int 0, .int 0, .int 0, .int 0, .int 0, .int 0, .ref sa_RX16_9, .int (-1), .int 0, .int 0, .ref q_803, .ref q_804, .int 0]))] sz) []) (va_A [(h0, .inr (14, [.ref q_801, .int 0, .int 0, .int 0, .int 0, .int 0, .int 0, .ref sa_RX16_9, .int (-1), .int 0, .int 0, .ref q_803, .ref q_804, .int 0]))] sz)) (vx_X (fun _ : Unit => True) (fun E (q9 : Addr) (_ : Unit) (t9 : State) => (E = RX18 ∧ va_P (dC, dI) vwP [(q9, .inr (15, [.null, .null, .null, .null, .null, .int 0, .int 0]))] t9.heap ∧ va_D (va_A [(h0, .inr (14, [.ref q_801, .int 0, .int 0, .int 0, .int 0, .int 0, .int 0, .ref sa_RX16_9, .int (-1), .int 0, .int 0, .ref q_803, .ref q_804, .int 0]))] sz) [(q9, .inr (15, [.null, .null, .null, .null, .null, .int 0, .int 0]))])) (va_A [(h0, .inr (14, [.ref q_801, .int 0, .int 0, .int 0, .int 0, .int 0, .int 0, .ref sa_RX16_9, .int (-1), .int 0, .int 0, .ref q_803, .ref q_804, .int 0]))] sz)) 1 7 (va_A [(h0, .inr (14, [.ref q_801, .int 0, .int 0, .int 0, .int 0, .int 0, .int 0, .ref sa_RX16_9, .int (-1), .int 0, .int 0, .ref q_803, .ref q_804, .int 0]))] sz) := by
  refine vx_ofW (cc := cX16_block) (maxL := 6) (ret := none) (by decide) rfl ?_
  intro p e s m args below meth c s₁ B hml hnt hv
  obtain ⟨rfl, hsz, hP, hK, hD0, hp0, hp1⟩ := hv
  have hx := B.exec
  have hb := B.bytes
  have hr := B.returns
  have hts := atoms_spec (ws := v_X16_block) B.pre
  have hown : s.vm.findClass RX16 = some m.cls := findClass_of_methodNamed B.named
  have hlocks := B.notSynchronized
  have ow : ∀ {k : Nat} {w : Cond}, o_X16_block[k]? = some w → w.before ([.ref h0, .ref q_805] : List Value).toArray s = true := fun h => hts _ (mow_X16_block _ (List.mem_of_getElem? h))
  subst hsz
  have hD := hD0.self (sz := s.heap.size)
  generalize hAe : va_A [(h0, .inr (14, [.ref q_801, .int 0, .int 0, .int 0, .int 0, .int 0, .int 0, .ref sa_RX16_9, .int (-1), .int 0, .int 0, .ref q_803, .ref q_804, .int 0]))] s.heap.size = A at hD hp0 hp1 ⊢
  have hA : ∀ q : Nat, s.heap.size ≤ q → A q := fun q h => by rw [← hAe]; exact Or.inr h
  have hS : va_S A s.heap s.heap [] := va_S.rf
  have hP : va_P (dC, dI) vwP [(h0, .inr (14, [.ref q_801, .int 0, .int 0, .int 0, .int 0, .int 0, .int 0, .ref sa_RX16_9, .int (-1), .int 0, .int 0, .ref q_803, .ref q_804, .int 0]))] s.heap := hP
  have hl := lv_entry ([.ref h0, .ref q_805]) (n := 6) (Nat.le_of_ble_eq_true rfl)
  rw [lg_entry_eq]
  generalize (lg_sl ([.ref h0, .ref q_805]) ++ List.replicate (6 - (lg_sl ([.ref h0, .ref q_805])).length) Slot.unset).toArray = ls at hl ⊢
  have hl : lv_has ls 6 [(0, .ref h0), (1, .ref q_805)] := hl
  obtain ⟨H, hH⟩ : ∃ H, H = s.heap := ⟨_, rfl⟩
  rw [← hH] at hP
  have hS : va_S A s.heap H [] := by rw [hH]; exact hS
  rw [← hH]
  refine lv_aload_n hx hb dX16_block_0 rfl (lv_at hl 0 rfl) ?_
  refine va_get (D := (dC, dI)) (ci := 14) (v := .int 0) (C := RX16) (T := TX16) (N := 14) hx hb hts mem_X16_block_0 hown hK hP 0 rfl rfl 4 (by decide) (ow (k := 0) rfl) (fun _ h9 => h9) rfl dX16_block_1 ?_
  refine lv_istore_n (lv' := [(2, .int 0), (0, .ref h0), (1, .ref q_805)]) hx hb dX16_block_4 rfl hl (by decide) rfl (fun ls hl => ?_)
  refine lv_aload_n hx hb dX16_block_5 rfl (lv_at hl 1 rfl) ?_
  refine lv_iconst (v := 3) hx hb dX16_block_6 (by decide) ?_
  have hPc := hP.sub (ws' := [(h0, .inr (14, [.ref q_801, .int 0, .int 0, .int 0, .int 0, .int 0, .int 0, .ref sa_RX16_9, .int (-1), .int 0, .int 0, .ref q_803, .ref q_804, .int 0]))]) [0] rfl
  have hDc := hD.sub (ws' := [(h0, .inr (14, [.ref q_801, .int 0, .int 0, .int 0, .int 0, .int 0, .int 0, .ref sa_RX16_9, .int (-1), .int 0, .int 0, .ref q_803, .ref q_804, .int 0]))]) [0] (by decide) rfl
  have hKc := hK.sub (tys' := []) [] rfl
  have hFc := va_free (wc := [(h0, .inr (14, [.ref q_801, .int 0, .int 0, .int 0, .int 0, .int 0, .int 0, .ref sa_RX16_9, .int (-1), .int 0, .int 0, .ref q_803, .ref q_804, .int 0]))]) hD hS hA [0] rfl
  refine vx_calli (vx_runV (As := [.int 3]) (rest := []) ⟨hx, hb, hml, hown, hts⟩ (c_X16_want l dC dI h0 q_801 q_803 q_804 sa_RX16_9 H.size) (cwV 1 hts g_X16_block_X16_want rfl rfl rfl (by decide +kernel) ⟨(Nat.le_of_ble_eq_true rfl), (Nat.le_of_ble_eq_true rfl)⟩) ⟨fun a U g mk q => by obtain ⟨q0, q1, qP, qK, qD, e0, e1⟩ := q; exact ⟨q0, q1, qP, va_K.moved (u := U) (U := U.calling g mk a) (Vm.Alike.refl U.vm) qK, qD, vx_Zq.moved (u := U) (U := U.calling g mk a) (Vm.Alike.refl U.vm) e0, vx_Zq.moved (u := U) (U := U.calling g mk a) (Vm.Alike.refl U.vm) e1⟩, va_recv hKc hPc (ci := 14) (q0 := 0) rfl rfl, fun U hU hW => ⟨rfl, by rw [hU], by rw [hU]; exact hPc, va_K.moved hW.alike hKc, hDc.weaken (fun _ _ _ _ => trivial), by rw [hU]; exact vx_Zq.narrow (vx_Zq.moved hW.alike (vx_Zq.kept hp0 hS.2.1)) hFc, by rw [hU]; exact vx_Zq.narrow (vx_Zq.moved hW.alike (vx_Zq.kept hp1 hS.2.1)) hFc⟩⟩ rfl rfl hl.1 rfl (lv_room (Nat.le_of_ble_eq_true rfl)) dX16_block_7 ⟨(Nat.le_of_ble_eq_true rfl), (Nat.le_of_ble_eq_true rfl)⟩) hS (fun q _ h => hFc q h) hFc (fun q _ h => hFc q h) (fun E ce q9 u t H1 locs ht hvm _ hB hz1 hk1 hS hce hcv hcl => ?_) (fun r_2001 u t H1 locs ht hvm hw hB hz1 hk1 hS => ?_)
  · obtain ⟨rfl, hP1, hD1⟩ := hB
    rw [ht] at hP1
    obtain ⟨hP, hD⟩ := va_join (wr := []) (w1 := [(q9, .inr (15, [.null, .null, .null, .null, .null, .int 0, .int 0]))]) hP hD [0] [] rfl rfl (by decide) (by decide) hk1 hFc hP1 hD1
    have hK := hK.sub (tys' := []) [] rfl
    generalize H1 = H at hP hS hce ⊢
    have hP : va_P (dC, dI) vwP [(q9, .inr (15, [.null, .null, .null, .null, .null, .int 0, .int 0]))] H := hP
    have hD : va_D A [(q9, .inr (15, [.null, .null, .null, .null, .null, .int 0, .int 0]))] := hD
    refine vx_widen (k := 1) (n := 7) (Nat.le_of_ble_eq_true rfl) (Nat.le_of_ble_eq_true rfl) ?_
    exact vx_out (fun x9 h9 => (hnt x9 h9).elim) hlocks hce hcv hcl (fun t ht hvm => ⟨(), trivial, ⟨rfl, by rw [ht]; exact hP, hD⟩, hS.F ht⟩) hS.2.2 (Nat.le_of_ble_eq_true rfl) (Nat.le_of_ble_eq_true rfl)
  exact hw.elim
theorem dX16_program_0 : decode cX16_program 0 = .ok (.aload_n 1, 1) := by decide +kernel
theorem dX16_program_1 : decode cX16_program 1 = .ok (.invokevirtual 155, 3) := by decide +kernel
theorem dX16_program_4 : decode cX16_program 4 = .ok (.aload_n 0, 1) := by decide +kernel
theorem dX16_program_5 : decode cX16_program 5 = .ok (.aload_n 1, 1) := by decide +kernel
theorem dX16_program_6 : decode cX16_program 6 = .ok (.invokevirtual 160, 3) := by decide +kernel
def o_X16_program : List Cond := [.methodLink RX16 155 yX13_begin, .instanceMethod yX13_begin, .selects RX13 yX13_begin yX13_begin, .initialized RX13, .methodLink RX16 160 yX16_block, .instanceMethod yX16_block, .selects RX16 yX16_block yX16_block, .initialized RX16]
def v_X16_program : List Cond := .code yX16_program cX16_program 3 none :: (o_X16_program ++ (v_X13_begin ++ (v_X16_block ++ [])))
theorem mow_X16_program : ∀ w ∈ o_X16_program, w ∈ v_X16_program := fun _ h => List.mem_cons_of_mem _ (List.mem_append_left _ h)
theorem mem_X16_program_0 : ∀ w ∈ v_X13_begin, w ∈ v_X16_program := fun _ h => List.mem_cons_of_mem _ (List.mem_append_right _ (List.mem_append_left _ h))
theorem mem_X16_program_1 : ∀ w ∈ v_X16_block, w ∈ v_X16_program := fun _ h => List.mem_cons_of_mem _ (List.mem_append_right _ (List.mem_append_right _ (List.mem_append_left _ h)))
set_option maxRecDepth 20000 in
theorem gw_X16_program : v_X16_program.all goodWord = true := by decide +kernel
set_option maxRecDepth 20000 in
theorem g_X16_program_X13_begin : GoodIn v_X16_program (wsV RX16 155 RX13 yX13_begin v_X13_begin) := goodIn_app (goodIn_sub (fun w h => mow_X16_program w (by revert w h; decide +kernel)) (by decide +kernel)) (goodIn_sub mem_X16_program_0 gw_X13_begin)
set_option maxRecDepth 20000 in
theorem g_X16_program_X16_block : GoodIn v_X16_program (wsV RX16 160 RX16 yX16_block v_X16_block) := goodIn_app (goodIn_sub (fun w h => mow_X16_program w (by revert w h; decide +kernel)) (by decide +kernel)) (goodIn_sub mem_X16_program_1 gw_X16_block)
set_option maxHeartbeats 4000000 in
set_option maxRecDepth 100000 in
theorem c_X16_program (l : Launch) (dC : Nat → ClassId) (dI : Nat → Nat → Nat) (h0 : Nat) (q_801 : Nat) (q_803 : Nat) (q_804 : Nat) (q_17 : Nat) (q_18 : Nat) (q_19 : Nat) (q_20 : Nat) (q_21 : Nat) (sa_RX16_9 : Nat) (sx_ed : Nat) (sz : Nat) : vx_Met l yX16_program v_X16_program ({ frames := 8, cells := 1, slots := 7, locals := 172 }) (va_Pc [.ref h0, .ref q_17] (fun U => U.heap.size = sz ∧ va_P (dC, dI) vwP [(h0, .inr (14, [.ref q_801, .int 0, .int 0, .int 0, .int 0, .int 0, .int 0, .ref sa_RX16_9, .int (-1), .int 0, .int 0, .ref q_803, .ref q_804, .int 0])), (q_17, .inr (12, [.ref q_18, .ref q_19, .ref q_20, .int 0, .int 0, .ref q_21, .int 0])), (q_21, .inr (18, [.int 0, .ref sx_ed, .int 0]))] U.heap ∧ va_K (dC, dI) vwP [] U ∧ va_D (fun _ => True) [(h0, .inr (14, [.ref q_801, .int 0, .int 0, .int 0, .int 0, .int 0, .int 0, .ref sa_RX16_9, .int (-1), .int 0, .int 0, .ref q_803, .ref q_804, .int 0])), (q_17, .inr (12, [.ref q_18, .ref q_19, .ref q_20, .int 0, .int 0, .ref q_21, .int 0])), (q_21, .inr (18, [.int 0, .ref sx_ed, .int 0]))] ∧ vx_Zq Bundle.tN "UNASSIGNED_STACK" Bundle.steD (va_A [(h0, .inr (14, [.ref q_801, .int 0, .int 0, .int 0, .int 0, .int 0, .int 0, .ref sa_RX16_9, .int (-1), .int 0, .int 0, .ref q_803, .ref q_804, .int 0])), (q_17, .inr (12, [.ref q_18, .ref q_19, .ref q_20, .int 0, .int 0, .ref q_21, .int 0])), (q_21, .inr (18, [.int 0, .ref sx_ed, .int 0]))] sz) U U.heap ∧ vx_Zq Bundle.tN "SUPPRESSED_SENTINEL" Bundle.listD (va_A [(h0, .inr (14, [.ref q_801, .int 0, .int 0, .int 0, .int 0, .int 0, .int 0, .ref sa_RX16_9, .int (-1), .int 0, .int 0, .ref q_803, .ref q_804, .int 0])), (q_17, .inr (12, [.ref q_18, .ref q_19, .ref q_20, .int 0, .int 0, .ref q_21, .int 0])), (q_21, .inr (18, [.int 0, .ref sx_ed, .int 0]))] sz) U U.heap)) (va_Qv (fun _ : Unit => False) (fun (_ : Unit) (t : State) => va_P (dC, dI) vwP [] t.heap ∧ va_K (dC, dI) vwP [] t ∧ va_D (va_A [(h0, .inr (14, [.ref q_801, .int 0, .int 0, .int 0, .int 0, .int 0, .int 0, .ref sa_RX16_9, .int (-1), .int 0, .int 0, .ref q_803, .ref q_804, .int 0])), (q_17, .inr (12, [.ref q_18, .ref q_19, .ref q_20, .int 0, .int 0, .ref q_21, .int 0])), (q_21, .inr (18, [.int 0, .ref sx_ed, .int 0]))] sz) []) (va_A [(h0, .inr (14, [.ref q_801, .int 0, .int 0, .int 0, .int 0, .int 0, .int 0, .ref sa_RX16_9, .int (-1), .int 0, .int 0, .ref q_803, .ref q_804, .int 0])), (q_17, .inr (12, [.ref q_18, .ref q_19, .ref q_20, .int 0, .int 0, .ref q_21, .int 0])), (q_21, .inr (18, [.int 0, .ref sx_ed, .int 0]))] sz)) (vx_X (fun _ : Unit => True) (fun E (q9 : Addr) (_ : Unit) (t9 : State) => (E = RX18 ∧ va_P (dC, dI) vwP [(q9, .inr (15, [.null, .null, .null, .null, .null, .int 0, .int 0]))] t9.heap ∧ va_D (va_A [(h0, .inr (14, [.ref q_801, .int 0, .int 0, .int 0, .int 0, .int 0, .int 0, .ref sa_RX16_9, .int (-1), .int 0, .int 0, .ref q_803, .ref q_804, .int 0])), (q_17, .inr (12, [.ref q_18, .ref q_19, .ref q_20, .int 0, .int 0, .ref q_21, .int 0])), (q_21, .inr (18, [.int 0, .ref sx_ed, .int 0]))] sz) [(q9, .inr (15, [.null, .null, .null, .null, .null, .int 0, .int 0]))])) (va_A [(h0, .inr (14, [.ref q_801, .int 0, .int 0, .int 0, .int 0, .int 0, .int 0, .ref sa_RX16_9, .int (-1), .int 0, .int 0, .ref q_803, .ref q_804, .int 0])), (q_17, .inr (12, [.ref q_18, .ref q_19, .ref q_20, .int 0, .int 0, .ref q_21, .int 0])), (q_21, .inr (18, [.int 0, .ref sx_ed, .int 0]))] sz)) 1 7 (va_A [(h0, .inr (14, [.ref q_801, .int 0, .int 0, .int 0, .int 0, .int 0, .int 0, .ref sa_RX16_9, .int (-1), .int 0, .int 0, .ref q_803, .ref q_804, .int 0])), (q_17, .inr (12, [.ref q_18, .ref q_19, .ref q_20, .int 0, .int 0, .ref q_21, .int 0])), (q_21, .inr (18, [.int 0, .ref sx_ed, .int 0]))] sz) := by
  refine vx_ofW (cc := cX16_program) (maxL := 3) (ret := none) (by decide) rfl ?_
  intro p e s m args below meth c s₁ B hml hnt hv
  obtain ⟨rfl, hsz, hP, hK, hD0, hp0, hp1⟩ := hv
  have hx := B.exec
  have hb := B.bytes
  have hr := B.returns
  have hts := atoms_spec (ws := v_X16_program) B.pre
  have hown : s.vm.findClass RX16 = some m.cls := findClass_of_methodNamed B.named
  have hlocks := B.notSynchronized
  have ow : ∀ {k : Nat} {w : Cond}, o_X16_program[k]? = some w → w.before ([.ref h0, .ref q_17] : List Value).toArray s = true := fun h => hts _ (mow_X16_program _ (List.mem_of_getElem? h))
  subst hsz
  have hD := hD0.self (sz := s.heap.size)
  generalize hAe : va_A [(h0, .inr (14, [.ref q_801, .int 0, .int 0, .int 0, .int 0, .int 0, .int 0, .ref sa_RX16_9, .int (-1), .int 0, .int 0, .ref q_803, .ref q_804, .int 0])), (q_17, .inr (12, [.ref q_18, .ref q_19, .ref q_20, .int 0, .int 0, .ref q_21, .int 0])), (q_21, .inr (18, [.int 0, .ref sx_ed, .int 0]))] s.heap.size = A at hD hp0 hp1 ⊢
  have hA : ∀ q : Nat, s.heap.size ≤ q → A q := fun q h => by rw [← hAe]; exact Or.inr h
  have hS : va_S A s.heap s.heap [] := va_S.rf
  have hP : va_P (dC, dI) vwP [(h0, .inr (14, [.ref q_801, .int 0, .int 0, .int 0, .int 0, .int 0, .int 0, .ref sa_RX16_9, .int (-1), .int 0, .int 0, .ref q_803, .ref q_804, .int 0])), (q_17, .inr (12, [.ref q_18, .ref q_19, .ref q_20, .int 0, .int 0, .ref q_21, .int 0])), (q_21, .inr (18, [.int 0, .ref sx_ed, .int 0]))] s.heap := hP
  have hl := lv_entry ([.ref h0, .ref q_17]) (n := 3) (Nat.le_of_ble_eq_true rfl)
  rw [lg_entry_eq]
  generalize (lg_sl ([.ref h0, .ref q_17]) ++ List.replicate (3 - (lg_sl ([.ref h0, .ref q_17])).length) Slot.unset).toArray = ls at hl ⊢
  have hl : lv_has ls 3 [(0, .ref h0), (1, .ref q_17)] := hl
  obtain ⟨H, hH⟩ : ∃ H, H = s.heap := ⟨_, rfl⟩
  rw [← hH] at hP
  have hS : va_S A s.heap H [] := by rw [hH]; exact hS
  rw [← hH]
  refine lv_aload_n hx hb dX16_program_0 rfl (lv_at hl 1 rfl) ?_
  have hPc := hP.sub (ws' := [(q_17, .inr (12, [.ref q_18, .ref q_19, .ref q_20, .int 0, .int 0, .ref q_21, .int 0])), (q_21, .inr (18, [.int 0, .ref sx_ed, .int 0]))]) [1, 2] rfl
  have hDc := hD.sub (ws' := [(q_17, .inr (12, [.ref q_18, .ref q_19, .ref q_20, .int 0, .int 0, .ref q_21, .int 0])), (q_21, .inr (18, [.int 0, .ref sx_ed, .int 0]))]) [1, 2] (by decide) rfl
  have hKc := hK.sub (tys' := []) [] rfl
  have hFc := va_free (wc := [(q_17, .inr (12, [.ref q_18, .ref q_19, .ref q_20, .int 0, .int 0, .ref q_21, .int 0])), (q_21, .inr (18, [.int 0, .ref sx_ed, .int 0]))]) hD hS hA [1, 2] rfl
  refine va_callv (va_runV (As := []) (rest := []) ⟨hx, hb, hml, hown, hts⟩ (c_X13_begin l dC dI q_17 q_18 q_19 q_20 q_21 sx_ed H.size) (cwV 0 hts g_X16_program_X13_begin rfl rfl rfl (by decide +kernel) ⟨(Nat.le_of_ble_eq_true rfl), (Nat.le_of_ble_eq_true rfl)⟩) ⟨fun a U g mk q => by obtain ⟨q0, q1, qP, qK, qD⟩ := q; exact ⟨q0, q1, qP, va_K.moved (u := U) (U := U.calling g mk a) (Vm.Alike.refl U.vm) qK, qD⟩, va_recv hKc hPc (ci := 12) (q0 := 0) rfl rfl, fun U hU hW => ⟨rfl, by rw [hU], by rw [hU]; exact hPc, va_K.moved hW.alike hKc, hDc.weaken (fun _ _ _ _ => trivial)⟩⟩ rfl rfl hl.1 rfl (lv_room (Nat.le_of_ble_eq_true rfl)) dX16_program_1 ⟨(Nat.le_of_ble_eq_true rfl), (Nat.le_of_ble_eq_true rfl)⟩) hS (fun q _ h => hFc q h) hFc (fun  u t H1 locs ht hvm hw hB hz1 hk1 hS => ?_)
  obtain ⟨hP1, hK1, hD1⟩ := hB
  rw [ht] at hP1
  have hK1 := va_K.moved hvm.symm hK1
  obtain ⟨hP, hD⟩ := va_join (wr := [(h0, .inr (14, [.ref q_801, .int 0, .int 0, .int 0, .int 0, .int 0, .int 0, .ref sa_RX16_9, .int (-1), .int 0, .int 0, .ref q_803, .ref q_804, .int 0]))]) (w1 := [(q_17, .inr (12, [.ref q_18, .ref q_19, .ref q_20, .int 0, .int 0, .ref q_21, .int 0])), (q_21, .inr (18, [.int 1, .ref sx_ed, .int 0]))]) hP hD [1, 2] [0] rfl rfl (by decide) (by decide) hk1 hFc hP1 hD1
  have hK := (hK.sub (tys' := []) [] rfl).app hK1
  generalize H1 = H at hP hS ⊢
  have hP : va_P (dC, dI) vwP [(h0, .inr (14, [.ref q_801, .int 0, .int 0, .int 0, .int 0, .int 0, .int 0, .ref sa_RX16_9, .int (-1), .int 0, .int 0, .ref q_803, .ref q_804, .int 0])), (q_17, .inr (12, [.ref q_18, .ref q_19, .ref q_20, .int 0, .int 0, .ref q_21, .int 0])), (q_21, .inr (18, [.int 1, .ref sx_ed, .int 0]))] H := hP
  have hD : va_D A [(h0, .inr (14, [.ref q_801, .int 0, .int 0, .int 0, .int 0, .int 0, .int 0, .ref sa_RX16_9, .int (-1), .int 0, .int 0, .ref q_803, .ref q_804, .int 0])), (q_17, .inr (12, [.ref q_18, .ref q_19, .ref q_20, .int 0, .int 0, .ref q_21, .int 0])), (q_21, .inr (18, [.int 1, .ref sx_ed, .int 0]))] := hD
  have hK : va_K (dC, dI) vwP [] s := hK
  refine W.widen (k := 0) (n := 0) (Nat.le_of_ble_eq_true rfl) (Nat.le_of_ble_eq_true rfl) ?_
  refine lv_aload_n hx hb dX16_program_4 rfl (lv_at hl 0 rfl) ?_
  refine lv_aload_n hx hb dX16_program_5 rfl (lv_at hl 1 rfl) ?_
  have hPc := hP.sub (ws' := [(h0, .inr (14, [.ref q_801, .int 0, .int 0, .int 0, .int 0, .int 0, .int 0, .ref sa_RX16_9, .int (-1), .int 0, .int 0, .ref q_803, .ref q_804, .int 0]))]) [0] rfl
  have hDc := hD.sub (ws' := [(h0, .inr (14, [.ref q_801, .int 0, .int 0, .int 0, .int 0, .int 0, .int 0, .ref sa_RX16_9, .int (-1), .int 0, .int 0, .ref q_803, .ref q_804, .int 0]))]) [0] (by decide) rfl
  have hKc := hK.sub (tys' := []) [] rfl
  have hFc := va_free (wc := [(h0, .inr (14, [.ref q_801, .int 0, .int 0, .int 0, .int 0, .int 0, .int 0, .ref sa_RX16_9, .int (-1), .int 0, .int 0, .ref q_803, .ref q_804, .int 0]))]) hD hS hA [0] rfl
  refine vx_callv (vx_runV (As := [.ref q_17]) (rest := []) ⟨hx, hb, hml, hown, hts⟩ (c_X16_block l dC dI h0 q_801 q_803 q_804 sa_RX16_9 q_17 H.size) (cwV 1 hts g_X16_program_X16_block rfl rfl rfl (by decide +kernel) ⟨(Nat.le_of_ble_eq_true rfl), (Nat.le_of_ble_eq_true rfl)⟩) ⟨fun a U g mk q => by obtain ⟨q0, q1, qP, qK, qD, e0, e1⟩ := q; exact ⟨q0, q1, qP, va_K.moved (u := U) (U := U.calling g mk a) (Vm.Alike.refl U.vm) qK, qD, vx_Zq.moved (u := U) (U := U.calling g mk a) (Vm.Alike.refl U.vm) e0, vx_Zq.moved (u := U) (U := U.calling g mk a) (Vm.Alike.refl U.vm) e1⟩, va_recv hKc hPc (ci := 14) (q0 := 0) rfl rfl, fun U hU hW => ⟨rfl, by rw [hU], by rw [hU]; exact hPc, va_K.moved hW.alike hKc, hDc.weaken (fun _ _ _ _ => trivial), by rw [hU]; exact vx_Zq.narrow (vx_Zq.moved hW.alike (vx_Zq.kept hp0 hS.2.1)) hFc, by rw [hU]; exact vx_Zq.narrow (vx_Zq.moved hW.alike (vx_Zq.kept hp1 hS.2.1)) hFc⟩⟩ rfl rfl hl.1 rfl (lv_room (Nat.le_of_ble_eq_true rfl)) dX16_program_6 ⟨(Nat.le_of_ble_eq_true rfl), (Nat.le_of_ble_eq_true rfl)⟩) hS (fun q _ h => hFc q h) hFc (fun q _ h => hFc q h) (fun E ce q9 u t H1 locs ht hvm _ hB hz1 hk1 hS hce hcv hcl => ?_) (fun  u t H1 locs ht hvm hw hB hz1 hk1 hS => ?_)
  · obtain ⟨rfl, hP1, hD1⟩ := hB
    rw [ht] at hP1
    obtain ⟨hP, hD⟩ := va_join (wr := [(q_17, .inr (12, [.ref q_18, .ref q_19, .ref q_20, .int 0, .int 0, .ref q_21, .int 0])), (q_21, .inr (18, [.int 1, .ref sx_ed, .int 0]))]) (w1 := [(q9, .inr (15, [.null, .null, .null, .null, .null, .int 0, .int 0]))]) hP hD [0] [1, 2] rfl rfl (by decide) (by decide) hk1 hFc hP1 hD1
    have hK := hK.sub (tys' := []) [] rfl
    generalize H1 = H at hP hS hce ⊢
    have hP : va_P (dC, dI) vwP [(q_17, .inr (12, [.ref q_18, .ref q_19, .ref q_20, .int 0, .int 0, .ref q_21, .int 0])), (q_21, .inr (18, [.int 1, .ref sx_ed, .int 0])), (q9, .inr (15, [.null, .null, .null, .null, .null, .int 0, .int 0]))] H := hP
    have hD : va_D A [(q_17, .inr (12, [.ref q_18, .ref q_19, .ref q_20, .int 0, .int 0, .ref q_21, .int 0])), (q_21, .inr (18, [.int 1, .ref sx_ed, .int 0])), (q9, .inr (15, [.null, .null, .null, .null, .null, .int 0, .int 0]))] := hD
    refine vx_widen (k := 1) (n := 7) (Nat.le_of_ble_eq_true rfl) (Nat.le_of_ble_eq_true rfl) ?_
    have hP := hP.sub (ws' := [(q9, .inr (15, [.null, .null, .null, .null, .null, .int 0, .int 0]))]) [2] rfl
    have hD := hD.sub (ws' := [(q9, .inr (15, [.null, .null, .null, .null, .null, .int 0, .int 0]))]) [2] (by decide) rfl
    exact vx_out (fun x9 h9 => (hnt x9 h9).elim) hlocks hce hcv hcl (fun t ht hvm => ⟨(), trivial, ⟨rfl, by rw [ht]; exact hP, hD⟩, hS.F ht⟩) hS.2.2 (Nat.le_of_ble_eq_true rfl) (Nat.le_of_ble_eq_true rfl)
  exact hw.elim
theorem dX19_text_0 : decode cX19_text 0 = .ok (.aload_n 0, 1) := by decide +kernel
theorem dX19_text_1 : decode cX19_text 1 = .ok (.iconst 0, 1) := by decide +kernel
theorem dX19_text_2 : decode cX19_text 2 = .ok (.putfield 560, 3) := by decide +kernel
theorem dX19_text_5 : decode cX19_text 5 = .ok (.iconst (-1), 1) := by decide +kernel
theorem dX19_text_6 : decode cX19_text 6 = .ok (.istore_n 1, 1) := by decide +kernel
theorem dX19_text_7 : decode cX19_text 7 = .ok (.aload_n 0, 1) := by decide +kernel
theorem dX19_text_8 : decode cX19_text 8 = .ok (.iconst 0, 1) := by decide +kernel
theorem dX19_text_9 : decode cX19_text 9 = .ok (.putfield 572, 3) := by decide +kernel
theorem dX19_text_12 : decode cX19_text 12 = .ok (.new 575, 3) := by decide +kernel
theorem dX19_text_15 : decode cX19_text 15 = .ok (.dup, 1) := by decide +kernel
theorem dX19_text_16 : decode cX19_text 16 = .ok (.aload_n 0, 1) := by decide +kernel
theorem dX19_text_17 : decode cX19_text 17 = .ok (.getfield 551, 3) := by decide +kernel
theorem dX19_text_20 : decode cX19_text 20 = .ok (.aload_n 0, 1) := by decide +kernel
theorem dX19_text_21 : decode cX19_text 21 = .ok (.getfield 563, 3) := by decide +kernel
theorem dX19_text_24 : decode cX19_text 24 = .ok (.invokespecial 577, 3) := by decide +kernel
theorem dX19_text_27 : decode cX19_text 27 = .ok (.astore_n 2, 1) := by decide +kernel
theorem dX19_text_28 : decode cX19_text 28 = .ok (.aload_n 2, 1) := by decide +kernel
theorem dX19_text_29 : decode cX19_text 29 = .ok (.aload_n 0, 1) := by decide +kernel
theorem dX19_text_30 : decode cX19_text 30 = .ok (.getfield 545, 3) := by decide +kernel
theorem dX19_text_33 : decode cX19_text 33 = .ok (.invokevirtual 580, 3) := by decide +kernel
theorem dX19_text_60 : decode cX19_text 60 = .ok (.astore_n 2, 1) := by decide +kernel
theorem dX19_text_61 : decode cX19_text 61 = .ok (.aload_n 2, 1) := by decide +kernel
theorem dX19_text_62 : decode cX19_text 62 = .ok (.getfield 591, 3) := by decide +kernel
theorem dX19_text_65 : decode cX19_text 65 = .ok (.istore_n 1, 1) := by decide +kernel
theorem dX19_text_66 : decode cX19_text 66 = .ok (.aload_n 0, 1) := by decide +kernel
theorem dX19_text_67 : decode cX19_text 67 = .ok (.iconst 1, 1) := by decide +kernel
theorem dX19_text_68 : decode cX19_text 68 = .ok (.putfield 572, 3) := by decide +kernel
theorem dX19_text_71 : decode cX19_text 71 = .ok (.aload_n 0, 1) := by decide +kernel
theorem dX19_text_72 : decode cX19_text 72 = .ok (.iconst 0, 1) := by decide +kernel
theorem dX19_text_73 : decode cX19_text 73 = .ok (.putfield 563, 3) := by decide +kernel
theorem dX19_text_76 : decode cX19_text 76 = .ok (.aload_n 0, 1) := by decide +kernel
theorem dX19_text_77 : decode cX19_text 77 = .ok (.iload_n 1, 1) := by decide +kernel
theorem dX19_text_78 : decode cX19_text 78 = .ok (.ifCond .ge 7, 3) := by decide +kernel
theorem dX19_text_85 : decode cX19_text 85 = .ok (.iconst (-1), 1) := by decide +kernel
theorem dX19_text_86 : decode cX19_text 86 = .ok (.putfield 555, 3) := by decide +kernel
theorem dX19_text_89 : decode cX19_text 89 = .ok (.aload_n 0, 1) := by decide +kernel
theorem dX19_text_90 : decode cX19_text 90 = .ok (.getfield 555, 3) := by decide +kernel
theorem dX19_text_93 : decode cX19_text 93 = .ok (.ifCond .ne 7, 3) := by decide +kernel
theorem dX19_text_100 : decode cX19_text 100 = .ok (.iload_n 1, 1) := by decide +kernel
theorem dX19_text_101 : decode cX19_text 101 = .ok (.ireturn, 1) := by decide +kernel
def o_X19_text : List Cond := [.fieldLink RX19 560 "SsaForgeModel" "thrown" "I", .fieldLink RX19 572 "SsaForgeModel" "reason" "I", .classLink RX19 575 RX16, .instantiable RX16 14, .initialized RX16, .fieldLink RX19 551 "SsaForgeModel" "tape" "[B", .fieldLink RX19 563 "SsaForgeModel" "size" "I", .methodLink RX19 577 yX16_init, .instanceMethod yX16_init, .fieldLink RX19 545 "SsaForgeModel" "spare" "LSsaForgeModel$Code;", .methodLink RX19 580 yX16_program, .instanceMethod yX16_program, .selects RX16 yX16_program yX16_program, .classLink RX19 589 "SsaForgeModel$Wrong", .fieldLink RX19 591 "SsaForgeModel$Wrong" "place" "I", .fieldLink RX19 555 "SsaForgeModel" "form" "I"]
def v_X19_text : List Cond := .codeWith yX19_text cX19_text 3 (some .int) [(12, 57, 60, 589)] :: (o_X19_text ++ (wsX190 ++ (wsX160 ++ (v_X16_init ++ (v_X16_program ++ (wsX180 ++ []))))))
theorem mow_X19_text : ∀ w ∈ o_X19_text, w ∈ v_X19_text := fun _ h => List.mem_cons_of_mem _ (List.mem_append_left _ h)
theorem mem_X19_text_0 : ∀ w ∈ wsX190, w ∈ v_X19_text := fun _ h => List.mem_cons_of_mem _ (List.mem_append_right _ (List.mem_append_left _ h))
theorem mem_X19_text_1 : ∀ w ∈ wsX160, w ∈ v_X19_text := fun _ h => List.mem_cons_of_mem _ (List.mem_append_right _ (List.mem_append_right _ (List.mem_append_left _ h)))
theorem mem_X19_text_2 : ∀ w ∈ v_X16_init, w ∈ v_X19_text := fun _ h => List.mem_cons_of_mem _ (List.mem_append_right _ (List.mem_append_right _ (List.mem_append_right _ (List.mem_append_left _ h))))
theorem mem_X19_text_3 : ∀ w ∈ v_X16_program, w ∈ v_X19_text := fun _ h => List.mem_cons_of_mem _ (List.mem_append_right _ (List.mem_append_right _ (List.mem_append_right _ (List.mem_append_right _ (List.mem_append_left _ h)))))
theorem mem_X19_text_4 : ∀ w ∈ wsX180, w ∈ v_X19_text := fun _ h => List.mem_cons_of_mem _ (List.mem_append_right _ (List.mem_append_right _ (List.mem_append_right _ (List.mem_append_right _ (List.mem_append_right _ (List.mem_append_left _ h))))))
set_option maxRecDepth 20000 in
theorem gw_X19_text : v_X19_text.all goodWord = true := by decide +kernel
set_option maxRecDepth 20000 in
theorem g_X19_text_X16_program : GoodIn v_X19_text (wsV RX19 580 RX16 yX16_program v_X16_program) := goodIn_app (goodIn_sub (fun w h => mow_X19_text w (by revert w h; decide +kernel)) (by decide +kernel)) (goodIn_sub mem_X19_text_3 gw_X16_program)
set_option maxHeartbeats 4000000 in
set_option maxRecDepth 100000 in
theorem c_X19_text (l : Launch) (dC : Nat → ClassId) (dI : Nat → Nat → Nat) (h0 : Nat) (q_1 : Nat) (q_12 : Nat) (q_17 : Nat) (q_22 : Nat) (q_24 : Nat) (q_26 : Nat) (q_28 : Nat) (q_29 : Nat) (q_31 : Nat) (q_33 : Nat) (q_35 : Nat) (q_37 : Nat) (q_39 : Nat) (q_41 : Nat) (q_43 : Nat) (q_45 : Nat) (q_47 : Nat) (q_49 : Nat) (q_51 : Nat) (q_53 : Nat) (q_55 : Nat) (q_57 : Nat) (q_59 : Nat) (q_61 : Nat) (q_63 : Nat) (q_65 : Nat) (q_68 : Nat) (q_70 : Nat) (q_72 : Nat) (q_18 : Nat) (q_19 : Nat) (q_20 : Nat) (q_21 : Nat) (sx_ed : Nat) (sz : Nat) (sa_RX16_9 : Nat) : Met l yX19_text v_X19_text ({ frames := 9, cells := 4, slots := 53, locals := 194 }) (va_Pc [.ref h0] (fun U => U.heap.size = sz ∧ va_P (dC, dI) vwP [(h0, .inr (16, [.ref q_1, .ref q_12, .ref q_17, .ref q_22, .ref q_24, .ref q_26, .ref q_28, .ref q_29, .ref q_31, .ref q_33, .ref q_35, .int 0, .ref q_37, .ref q_39, .ref q_41, .ref q_43, .ref q_45, .ref q_47, .ref q_49, .ref q_51, .ref q_53, .ref q_55, .ref q_57, .int 0, .ref q_59, .ref q_61, .ref q_63, .int (-1), .int 0, .int 0, .int 0, .int 0, .ref q_65, .int 0, .ref q_68, .int 0, .int (-1), .int 0, .int 0, .ref q_70, .ref q_72])), (q_17, .inr (12, [.ref q_18, .ref q_19, .ref q_20, .int 0, .int 0, .ref q_21, .int 0])), (q_21, .inr (18, [.int 0, .ref sx_ed, .int 0]))] U.heap ∧ va_K (dC, dI) vwP [] U ∧ va_D (fun _ => True) [(h0, .inr (16, [.ref q_1, .ref q_12, .ref q_17, .ref q_22, .ref q_24, .ref q_26, .ref q_28, .ref q_29, .ref q_31, .ref q_33, .ref q_35, .int 0, .ref q_37, .ref q_39, .ref q_41, .ref q_43, .ref q_45, .ref q_47, .ref q_49, .ref q_51, .ref q_53, .ref q_55, .ref q_57, .int 0, .ref q_59, .ref q_61, .ref q_63, .int (-1), .int 0, .int 0, .int 0, .int 0, .ref q_65, .int 0, .ref q_68, .int 0, .int (-1), .int 0, .int 0, .ref q_70, .ref q_72])), (q_17, .inr (12, [.ref q_18, .ref q_19, .ref q_20, .int 0, .int 0, .ref q_21, .int 0])), (q_21, .inr (18, [.int 0, .ref sx_ed, .int 0]))] ∧ vk_R RX16 9 "" sa_RX16_9 U ∧ vx_Zq Bundle.tN "UNASSIGNED_STACK" Bundle.steD (va_A [(h0, .inr (16, [.ref q_1, .ref q_12, .ref q_17, .ref q_22, .ref q_24, .ref q_26, .ref q_28, .ref q_29, .ref q_31, .ref q_33, .ref q_35, .int 0, .ref q_37, .ref q_39, .ref q_41, .ref q_43, .ref q_45, .ref q_47, .ref q_49, .ref q_51, .ref q_53, .ref q_55, .ref q_57, .int 0, .ref q_59, .ref q_61, .ref q_63, .int (-1), .int 0, .int 0, .int 0, .int 0, .ref q_65, .int 0, .ref q_68, .int 0, .int (-1), .int 0, .int 0, .ref q_70, .ref q_72])), (q_17, .inr (12, [.ref q_18, .ref q_19, .ref q_20, .int 0, .int 0, .ref q_21, .int 0])), (q_21, .inr (18, [.int 0, .ref sx_ed, .int 0]))] sz) U U.heap ∧ vx_Zq Bundle.tN "SUPPRESSED_SENTINEL" Bundle.listD (va_A [(h0, .inr (16, [.ref q_1, .ref q_12, .ref q_17, .ref q_22, .ref q_24, .ref q_26, .ref q_28, .ref q_29, .ref q_31, .ref q_33, .ref q_35, .int 0, .ref q_37, .ref q_39, .ref q_41, .ref q_43, .ref q_45, .ref q_47, .ref q_49, .ref q_51, .ref q_53, .ref q_55, .ref q_57, .int 0, .ref q_59, .ref q_61, .ref q_63, .int (-1), .int 0, .int 0, .int 0, .int 0, .ref q_65, .int 0, .ref q_68, .int 0, .int (-1), .int 0, .int 0, .ref q_70, .ref q_72])), (q_17, .inr (12, [.ref q_18, .ref q_19, .ref q_20, .int 0, .int 0, .ref q_21, .int 0])), (q_21, .inr (18, [.int 0, .ref sx_ed, .int 0]))] sz) U U.heap ∧ va_Nw (.castable "SsaForgeModel$Wrong" "SsaForgeModel$Wrong") U)) (va_Qi (fun (r : Int32) (_ : Unit) => r = 0) (fun (_ : Unit) (t : State) => va_P (dC, dI) vwP [] t.heap ∧ va_K (dC, dI) vwP [] t ∧ va_D (va_A [(h0, .inr (16, [.ref q_1, .ref q_12, .ref q_17, .ref q_22, .ref q_24, .ref q_26, .ref q_28, .ref q_29, .ref q_31, .ref q_33, .ref q_35, .int 0, .ref q_37, .ref q_39, .ref q_41, .ref q_43, .ref q_45, .ref q_47, .ref q_49, .ref q_51, .ref q_53, .ref q_55, .ref q_57, .int 0, .ref q_59, .ref q_61, .ref q_63, .int (-1), .int 0, .int 0, .int 0, .int 0, .ref q_65, .int 0, .ref q_68, .int 0, .int (-1), .int 0, .int 0, .ref q_70, .ref q_72])), (q_17, .inr (12, [.ref q_18, .ref q_19, .ref q_20, .int 0, .int 0, .ref q_21, .int 0])), (q_21, .inr (18, [.int 0, .ref sx_ed, .int 0]))] sz) []) (va_A [(h0, .inr (16, [.ref q_1, .ref q_12, .ref q_17, .ref q_22, .ref q_24, .ref q_26, .ref q_28, .ref q_29, .ref q_31, .ref q_33, .ref q_35, .int 0, .ref q_37, .ref q_39, .ref q_41, .ref q_43, .ref q_45, .ref q_47, .ref q_49, .ref q_51, .ref q_53, .ref q_55, .ref q_57, .int 0, .ref q_59, .ref q_61, .ref q_63, .int (-1), .int 0, .int 0, .int 0, .int 0, .ref q_65, .int 0, .ref q_68, .int 0, .int (-1), .int 0, .int 0, .ref q_70, .ref q_72])), (q_17, .inr (12, [.ref q_18, .ref q_19, .ref q_20, .int 0, .int 0, .ref q_21, .int 0])), (q_21, .inr (18, [.int 0, .ref sx_ed, .int 0]))] sz)) 4 53 (va_A [(h0, .inr (16, [.ref q_1, .ref q_12, .ref q_17, .ref q_22, .ref q_24, .ref q_26, .ref q_28, .ref q_29, .ref q_31, .ref q_33, .ref q_35, .int 0, .ref q_37, .ref q_39, .ref q_41, .ref q_43, .ref q_45, .ref q_47, .ref q_49, .ref q_51, .ref q_53, .ref q_55, .ref q_57, .int 0, .ref q_59, .ref q_61, .ref q_63, .int (-1), .int 0, .int 0, .int 0, .int 0, .ref q_65, .int 0, .ref q_68, .int 0, .int (-1), .int 0, .int 0, .ref q_70, .ref q_72])), (q_17, .inr (12, [.ref q_18, .ref q_19, .ref q_20, .int 0, .int 0, .ref q_21, .int 0])), (q_21, .inr (18, [.int 0, .ref sx_ed, .int 0]))] sz) := by
  refine va_MetW (cc := cX19_text) (maxL := 3) (ret := (some .int)) (by decide) rfl ?_
  intro p e s m args below meth c s₁ B hml hv
  obtain ⟨rfl, hsz, hP, hK, hD0, hp0, hp1, hp2, hp3⟩ := hv
  have hx := B.exec
  have hb := B.bytes
  have hr := B.returns
  have hts := atoms_spec (ws := v_X19_text) B.pre
  have hown : s.vm.findClass RX19 = some m.cls := findClass_of_methodNamed B.named
  have hlocks := B.notSynchronized
  have ow : ∀ {k : Nat} {w : Cond}, o_X19_text[k]? = some w → w.before ([.ref h0] : List Value).toArray s = true := fun h => hts _ (mow_X19_text _ (List.mem_of_getElem? h))
  subst hsz
  have hD := hD0.self (sz := s.heap.size)
  generalize hAe : va_A [(h0, .inr (16, [.ref q_1, .ref q_12, .ref q_17, .ref q_22, .ref q_24, .ref q_26, .ref q_28, .ref q_29, .ref q_31, .ref q_33, .ref q_35, .int 0, .ref q_37, .ref q_39, .ref q_41, .ref q_43, .ref q_45, .ref q_47, .ref q_49, .ref q_51, .ref q_53, .ref q_55, .ref q_57, .int 0, .ref q_59, .ref q_61, .ref q_63, .int (-1), .int 0, .int 0, .int 0, .int 0, .ref q_65, .int 0, .ref q_68, .int 0, .int (-1), .int 0, .int 0, .ref q_70, .ref q_72])), (q_17, .inr (12, [.ref q_18, .ref q_19, .ref q_20, .int 0, .int 0, .ref q_21, .int 0])), (q_21, .inr (18, [.int 0, .ref sx_ed, .int 0]))] s.heap.size = A at hD hp1 hp2 ⊢
  have hA : ∀ q : Nat, s.heap.size ≤ q → A q := fun q h => by rw [← hAe]; exact Or.inr h
  have hS : va_S A s.heap s.heap [] := va_S.rf
  have hP : va_P (dC, dI) vwP [(h0, .inr (16, [.ref q_1, .ref q_12, .ref q_17, .ref q_22, .ref q_24, .ref q_26, .ref q_28, .ref q_29, .ref q_31, .ref q_33, .ref q_35, .int 0, .ref q_37, .ref q_39, .ref q_41, .ref q_43, .ref q_45, .ref q_47, .ref q_49, .ref q_51, .ref q_53, .ref q_55, .ref q_57, .int 0, .ref q_59, .ref q_61, .ref q_63, .int (-1), .int 0, .int 0, .int 0, .int 0, .ref q_65, .int 0, .ref q_68, .int 0, .int (-1), .int 0, .int 0, .ref q_70, .ref q_72])), (q_17, .inr (12, [.ref q_18, .ref q_19, .ref q_20, .int 0, .int 0, .ref q_21, .int 0])), (q_21, .inr (18, [.int 0, .ref sx_ed, .int 0]))] s.heap := hP
  have hl := lv_entry ([.ref h0]) (n := 3) (Nat.le_of_ble_eq_true rfl)
  rw [lg_entry_eq]
  generalize (lg_sl ([.ref h0]) ++ List.replicate (3 - (lg_sl ([.ref h0])).length) Slot.unset).toArray = ls at hl ⊢
  have hl : lv_has ls 3 [(0, .ref h0)] := hl
  obtain ⟨H, hH⟩ : ∃ H, H = s.heap := ⟨_, rfl⟩
  rw [← hH] at hP
  have hS : va_S A s.heap H [] := by rw [hH]; exact hS
  rw [← hH]
  refine lv_aload_n hx hb dX19_text_0 rfl (lv_at hl 0 rfl) ?_
  refine lv_iconst (v := 0) hx hb dX19_text_1 (by decide) ?_
  refine va_put (D := (dC, dI)) (ci := 16) (v := .int 0) (ty := .int) (C := RX19) (T := TX19) (N := 41) hx hb hts mem_X19_text_0 tyX19 tyX19_ok nmX19 hown hK hP hD hS 0 rfl rfl 33 (by decide) (ow (k := 0) rfl) (fun _ h9 => h9) rfl (by decide +kernel) rfl rfl (Nat.le_of_ble_eq_true rfl) dX19_text_2 (fun H locs hP hD hS => ?_)
  have hP : va_P (dC, dI) vwP [(h0, .inr (16, [.ref q_1, .ref q_12, .ref q_17, .ref q_22, .ref q_24, .ref q_26, .ref q_28, .ref q_29, .ref q_31, .ref q_33, .ref q_35, .int 0, .ref q_37, .ref q_39, .ref q_41, .ref q_43, .ref q_45, .ref q_47, .ref q_49, .ref q_51, .ref q_53, .ref q_55, .ref q_57, .int 0, .ref q_59, .ref q_61, .ref q_63, .int (-1), .int 0, .int 0, .int 0, .int 0, .ref q_65, .int 0, .ref q_68, .int 0, .int (-1), .int 0, .int 0, .ref q_70, .ref q_72])), (q_17, .inr (12, [.ref q_18, .ref q_19, .ref q_20, .int 0, .int 0, .ref q_21, .int 0])), (q_21, .inr (18, [.int 0, .ref sx_ed, .int 0]))] H := hP
  have hD : va_D A [(h0, .inr (16, [.ref q_1, .ref q_12, .ref q_17, .ref q_22, .ref q_24, .ref q_26, .ref q_28, .ref q_29, .ref q_31, .ref q_33, .ref q_35, .int 0, .ref q_37, .ref q_39, .ref q_41, .ref q_43, .ref q_45, .ref q_47, .ref q_49, .ref q_51, .ref q_53, .ref q_55, .ref q_57, .int 0, .ref q_59, .ref q_61, .ref q_63, .int (-1), .int 0, .int 0, .int 0, .int 0, .ref q_65, .int 0, .ref q_68, .int 0, .int (-1), .int 0, .int 0, .ref q_70, .ref q_72])), (q_17, .inr (12, [.ref q_18, .ref q_19, .ref q_20, .int 0, .int 0, .ref q_21, .int 0])), (q_21, .inr (18, [.int 0, .ref sx_ed, .int 0]))] := hD
  refine lv_iconst (v := (-1)) hx hb dX19_text_5 (by decide) ?_
  refine lv_istore_n (lv' := [(1, .int (-1)), (0, .ref h0)]) hx hb dX19_text_6 rfl hl (by decide) rfl (fun ls hl => ?_)
  refine lv_aload_n hx hb dX19_text_7 rfl (lv_at hl 1 rfl) ?_
  refine lv_iconst (v := 0) hx hb dX19_text_8 (by decide) ?_
  refine va_put (D := (dC, dI)) (ci := 16) (v := .int 0) (ty := .int) (C := RX19) (T := TX19) (N := 41) hx hb hts mem_X19_text_0 tyX19 tyX19_ok nmX19 hown hK hP hD hS 0 rfl rfl 37 (by decide) (ow (k := 1) rfl) (fun _ h9 => h9) rfl (by decide +kernel) rfl rfl (Nat.le_of_ble_eq_true rfl) dX19_text_9 (fun H locs hP hD hS => ?_)
  have hP : va_P (dC, dI) vwP [(h0, .inr (16, [.ref q_1, .ref q_12, .ref q_17, .ref q_22, .ref q_24, .ref q_26, .ref q_28, .ref q_29, .ref q_31, .ref q_33, .ref q_35, .int 0, .ref q_37, .ref q_39, .ref q_41, .ref q_43, .ref q_45, .ref q_47, .ref q_49, .ref q_51, .ref q_53, .ref q_55, .ref q_57, .int 0, .ref q_59, .ref q_61, .ref q_63, .int (-1), .int 0, .int 0, .int 0, .int 0, .ref q_65, .int 0, .ref q_68, .int 0, .int (-1), .int 0, .int 0, .ref q_70, .ref q_72])), (q_17, .inr (12, [.ref q_18, .ref q_19, .ref q_20, .int 0, .int 0, .ref q_21, .int 0])), (q_21, .inr (18, [.int 0, .ref sx_ed, .int 0]))] H := hP
  have hD : va_D A [(h0, .inr (16, [.ref q_1, .ref q_12, .ref q_17, .ref q_22, .ref q_24, .ref q_26, .ref q_28, .ref q_29, .ref q_31, .ref q_33, .ref q_35, .int 0, .ref q_37, .ref q_39, .ref q_41, .ref q_43, .ref q_45, .ref q_47, .ref q_49, .ref q_51, .ref q_53, .ref q_55, .ref q_57, .int 0, .ref q_59, .ref q_61, .ref q_63, .int (-1), .int 0, .int 0, .int 0, .int 0, .ref q_65, .int 0, .ref q_68, .int 0, .int (-1), .int 0, .int 0, .ref q_70, .ref q_72])), (q_17, .inr (12, [.ref q_18, .ref q_19, .ref q_20, .int 0, .int 0, .ref q_21, .int 0])), (q_21, .inr (18, [.int 0, .ref sx_ed, .int 0]))] := hD
  refine va_new (ci := 14) (fs := [.null, .int 0, .int 0, .int 0, .int 0, .int 0, .int 0, .null, .int 0, .int 0, .int 0, .null, .null, .int 0]) (C := RX16) (T := TX16) (N := 14) hx hb hts mem_X19_text_1 tyX16 tyX16_ok hown (ow (k := 2) rfl) (ow (k := 3) rfl) (ow (k := 4) rfl) hK hP hD hS hA rfl (df_X16) (Nat.le_of_ble_eq_true rfl) (Nat.le_of_ble_eq_true rfl) dX19_text_12 (fun q_2001 H hP hD hS => ?_)
  have hP : va_P (dC, dI) vwP [(h0, .inr (16, [.ref q_1, .ref q_12, .ref q_17, .ref q_22, .ref q_24, .ref q_26, .ref q_28, .ref q_29, .ref q_31, .ref q_33, .ref q_35, .int 0, .ref q_37, .ref q_39, .ref q_41, .ref q_43, .ref q_45, .ref q_47, .ref q_49, .ref q_51, .ref q_53, .ref q_55, .ref q_57, .int 0, .ref q_59, .ref q_61, .ref q_63, .int (-1), .int 0, .int 0, .int 0, .int 0, .ref q_65, .int 0, .ref q_68, .int 0, .int (-1), .int 0, .int 0, .ref q_70, .ref q_72])), (q_17, .inr (12, [.ref q_18, .ref q_19, .ref q_20, .int 0, .int 0, .ref q_21, .int 0])), (q_21, .inr (18, [.int 0, .ref sx_ed, .int 0])), (q_2001, .inr (14, [.null, .int 0, .int 0, .int 0, .int 0, .int 0, .int 0, .null, .int 0, .int 0, .int 0, .null, .null, .int 0]))] H := hP
  have hD : va_D A [(h0, .inr (16, [.ref q_1, .ref q_12, .ref q_17, .ref q_22, .ref q_24, .ref q_26, .ref q_28, .ref q_29, .ref q_31, .ref q_33, .ref q_35, .int 0, .ref q_37, .ref q_39, .ref q_41, .ref q_43, .ref q_45, .ref q_47, .ref q_49, .ref q_51, .ref q_53, .ref q_55, .ref q_57, .int 0, .ref q_59, .ref q_61, .ref q_63, .int (-1), .int 0, .int 0, .int 0, .int 0, .ref q_65, .int 0, .ref q_68, .int 0, .int (-1), .int 0, .int 0, .ref q_70, .ref q_72])), (q_17, .inr (12, [.ref q_18, .ref q_19, .ref q_20, .int 0, .int 0, .ref q_21, .int 0])), (q_21, .inr (18, [.int 0, .ref sx_ed, .int 0])), (q_2001, .inr (14, [.null, .int 0, .int 0, .int 0, .int 0, .int 0, .int 0, .null, .int 0, .int 0, .int 0, .null, .null, .int 0]))] := hD
  refine W.widen (k := 1) (n := 14) (Nat.le_of_ble_eq_true rfl) (Nat.le_of_ble_eq_true rfl) ?_
  refine lv_dup hx hb dX19_text_15 rfl ?_
  refine lv_aload_n hx hb dX19_text_16 rfl (lv_at hl 1 rfl) ?_
  refine va_get (D := (dC, dI)) (ci := 16) (v := .ref q_68) (C := RX19) (T := TX19) (N := 41) hx hb hts mem_X19_text_0 hown hK hP 0 rfl rfl 34 (by decide) (ow (k := 5) rfl) (fun _ h9 => h9) rfl dX19_text_17 ?_
  refine lv_aload_n hx hb dX19_text_20 rfl (lv_at hl 1 rfl) ?_
  refine va_get (D := (dC, dI)) (ci := 16) (v := .int 0) (C := RX19) (T := TX19) (N := 41) hx hb hts mem_X19_text_0 hown hK hP 0 rfl rfl 35 (by decide) (ow (k := 6) rfl) (fun _ h9 => h9) rfl dX19_text_21 ?_
  have hPc := hP.sub (ws' := [(q_2001, .inr (14, [.null, .int 0, .int 0, .int 0, .int 0, .int 0, .int 0, .null, .int 0, .int 0, .int 0, .null, .null, .int 0]))]) [3] rfl
  have hDc := hD.sub (ws' := [(q_2001, .inr (14, [.null, .int 0, .int 0, .int 0, .int 0, .int 0, .int 0, .null, .int 0, .int 0, .int 0, .null, .null, .int 0]))]) [3] (by decide) rfl
  have hKc := hK.sub (tys' := []) [] rfl
  have hFc := va_free (wc := [(q_2001, .inr (14, [.null, .int 0, .int 0, .int 0, .int 0, .int 0, .int 0, .null, .int 0, .int 0, .int 0, .null, .null, .int 0]))]) hD hS hA [3] rfl
  refine va_callv (va_runI (As := [.ref q_68, .int 0]) (rest := [.ref q_2001]) ⟨hx, hb, hml, hown, hts⟩ (c_X16_init l dC dI q_2001 q_68 H.size sa_RX16_9) (cwI 2 hts (goodIn_sub mem_X19_text_2 gw_X16_init) rfl rfl rfl (ow (k := 4) rfl) (ow (k := 7) rfl) (ow (k := 8) rfl) rfl (by decide +kernel) ⟨(Nat.le_of_ble_eq_true rfl), (Nat.le_of_ble_eq_true rfl)⟩) ⟨fun a U g mk q => by obtain ⟨q0, q1, qP, qK, qD, e0⟩ := q; exact ⟨q0, q1, qP, va_K.moved (u := U) (U := U.calling g mk a) (Vm.Alike.refl U.vm) qK, qD, vk_R.same (u := U) (U := U.calling g mk a) rfl e0⟩, fun U hU hW => ⟨rfl, by rw [hU], by rw [hU]; exact hPc, va_K.moved hW.alike hKc, hDc.weaken (fun _ _ _ _ => trivial), vk_R.warm hW hp0⟩⟩ rfl rfl hl.1 rfl (lv_room (Nat.le_of_ble_eq_true rfl)) dX19_text_24 ⟨(Nat.le_of_ble_eq_true rfl), (Nat.le_of_ble_eq_true rfl)⟩) hS (fun q _ h => hFc q h) hFc (fun  u t H1 locs ht hvm hw hB hz1 hk1 hS => ?_)
  obtain ⟨q_2002, q_2003, hP1, hK1, hD1⟩ := hB
  rw [ht] at hP1
  have hK1 := va_K.moved hvm.symm hK1
  obtain ⟨hP, hD⟩ := va_join (wr := [(h0, .inr (16, [.ref q_1, .ref q_12, .ref q_17, .ref q_22, .ref q_24, .ref q_26, .ref q_28, .ref q_29, .ref q_31, .ref q_33, .ref q_35, .int 0, .ref q_37, .ref q_39, .ref q_41, .ref q_43, .ref q_45, .ref q_47, .ref q_49, .ref q_51, .ref q_53, .ref q_55, .ref q_57, .int 0, .ref q_59, .ref q_61, .ref q_63, .int (-1), .int 0, .int 0, .int 0, .int 0, .ref q_65, .int 0, .ref q_68, .int 0, .int (-1), .int 0, .int 0, .ref q_70, .ref q_72])), (q_17, .inr (12, [.ref q_18, .ref q_19, .ref q_20, .int 0, .int 0, .ref q_21, .int 0])), (q_21, .inr (18, [.int 0, .ref sx_ed, .int 0]))]) (w1 := [(q_2001, .inr (14, [.ref q_68, .int 0, .int 0, .int 0, .int 0, .int 0, .int 0, .ref sa_RX16_9, .int (-1), .int 0, .int 0, .ref q_2002, .ref q_2003, .int 0]))]) hP hD [3] [0, 1, 2] rfl rfl (by decide) (by decide) hk1 hFc hP1 hD1
  have hK := (hK.sub (tys' := []) [] rfl).app hK1
  generalize H1 = H at hP hS ⊢
  have hP : va_P (dC, dI) vwP [(h0, .inr (16, [.ref q_1, .ref q_12, .ref q_17, .ref q_22, .ref q_24, .ref q_26, .ref q_28, .ref q_29, .ref q_31, .ref q_33, .ref q_35, .int 0, .ref q_37, .ref q_39, .ref q_41, .ref q_43, .ref q_45, .ref q_47, .ref q_49, .ref q_51, .ref q_53, .ref q_55, .ref q_57, .int 0, .ref q_59, .ref q_61, .ref q_63, .int (-1), .int 0, .int 0, .int 0, .int 0, .ref q_65, .int 0, .ref q_68, .int 0, .int (-1), .int 0, .int 0, .ref q_70, .ref q_72])), (q_17, .inr (12, [.ref q_18, .ref q_19, .ref q_20, .int 0, .int 0, .ref q_21, .int 0])), (q_21, .inr (18, [.int 0, .ref sx_ed, .int 0])), (q_2001, .inr (14, [.ref q_68, .int 0, .int 0, .int 0, .int 0, .int 0, .int 0, .ref sa_RX16_9, .int (-1), .int 0, .int 0, .ref q_2002, .ref q_2003, .int 0]))] H := hP
  have hD : va_D A [(h0, .inr (16, [.ref q_1, .ref q_12, .ref q_17, .ref q_22, .ref q_24, .ref q_26, .ref q_28, .ref q_29, .ref q_31, .ref q_33, .ref q_35, .int 0, .ref q_37, .ref q_39, .ref q_41, .ref q_43, .ref q_45, .ref q_47, .ref q_49, .ref q_51, .ref q_53, .ref q_55, .ref q_57, .int 0, .ref q_59, .ref q_61, .ref q_63, .int (-1), .int 0, .int 0, .int 0, .int 0, .ref q_65, .int 0, .ref q_68, .int 0, .int (-1), .int 0, .int 0, .ref q_70, .ref q_72])), (q_17, .inr (12, [.ref q_18, .ref q_19, .ref q_20, .int 0, .int 0, .ref q_21, .int 0])), (q_21, .inr (18, [.int 0, .ref sx_ed, .int 0])), (q_2001, .inr (14, [.ref q_68, .int 0, .int 0, .int 0, .int 0, .int 0, .int 0, .ref sa_RX16_9, .int (-1), .int 0, .int 0, .ref q_2002, .ref q_2003, .int 0]))] := hD
  have hK : va_K (dC, dI) vwP [] s := hK
  refine W.widen (k := 3) (n := 46) (Nat.le_of_ble_eq_true rfl) (Nat.le_of_ble_eq_true rfl) ?_
  refine lv_astore_n (lv' := [(2, .ref q_2001), (1, .int (-1)), (0, .ref h0)]) hx hb dX19_text_27 rfl hl (by decide) rfl (fun ls hl => ?_)
  refine lv_aload_n hx hb dX19_text_28 rfl (lv_at hl 0 rfl) ?_
  refine lv_aload_n hx hb dX19_text_29 rfl (lv_at hl 2 rfl) ?_
  refine va_get (D := (dC, dI)) (ci := 16) (v := .ref q_17) (C := RX19) (T := TX19) (N := 41) hx hb hts mem_X19_text_0 hown hK hP 0 rfl rfl 2 (by decide) (ow (k := 9) rfl) (fun _ h9 => h9) rfl dX19_text_30 ?_
  have hPc := hP.sub (ws' := [(q_2001, .inr (14, [.ref q_68, .int 0, .int 0, .int 0, .int 0, .int 0, .int 0, .ref sa_RX16_9, .int (-1), .int 0, .int 0, .ref q_2002, .ref q_2003, .int 0])), (q_17, .inr (12, [.ref q_18, .ref q_19, .ref q_20, .int 0, .int 0, .ref q_21, .int 0])), (q_21, .inr (18, [.int 0, .ref sx_ed, .int 0]))]) [3, 1, 2] rfl
  have hDc := hD.sub (ws' := [(q_2001, .inr (14, [.ref q_68, .int 0, .int 0, .int 0, .int 0, .int 0, .int 0, .ref sa_RX16_9, .int (-1), .int 0, .int 0, .ref q_2002, .ref q_2003, .int 0])), (q_17, .inr (12, [.ref q_18, .ref q_19, .ref q_20, .int 0, .int 0, .ref q_21, .int 0])), (q_21, .inr (18, [.int 0, .ref sx_ed, .int 0]))]) [3, 1, 2] (by decide) rfl
  have hKc := hK.sub (tys' := []) [] rfl
  have hFc := va_free (wc := [(q_2001, .inr (14, [.ref q_68, .int 0, .int 0, .int 0, .int 0, .int 0, .int 0, .ref sa_RX16_9, .int (-1), .int 0, .int 0, .ref q_2002, .ref q_2003, .int 0])), (q_17, .inr (12, [.ref q_18, .ref q_19, .ref q_20, .int 0, .int 0, .ref q_21, .int 0])), (q_21, .inr (18, [.int 0, .ref sx_ed, .int 0]))]) hD hS hA [3, 1, 2] rfl
  refine vx_callv (vx_runV (As := [.ref q_17]) (rest := []) ⟨hx, hb, hml, hown, hts⟩ (c_X16_program l dC dI q_2001 q_68 q_2002 q_2003 q_17 q_18 q_19 q_20 q_21 sa_RX16_9 sx_ed H.size) (cwV 1 hts g_X19_text_X16_program rfl rfl rfl (by decide +kernel) ⟨(Nat.le_of_ble_eq_true rfl), (Nat.le_of_ble_eq_true rfl)⟩) ⟨fun a U g mk q => by obtain ⟨q0, q1, qP, qK, qD, e0, e1⟩ := q; exact ⟨q0, q1, qP, va_K.moved (u := U) (U := U.calling g mk a) (Vm.Alike.refl U.vm) qK, qD, vx_Zq.moved (u := U) (U := U.calling g mk a) (Vm.Alike.refl U.vm) e0, vx_Zq.moved (u := U) (U := U.calling g mk a) (Vm.Alike.refl U.vm) e1⟩, va_recv hKc hPc (ci := 14) (q0 := 0) rfl rfl, fun U hU hW => ⟨rfl, by rw [hU], by rw [hU]; exact hPc, va_K.moved hW.alike hKc, hDc.weaken (fun _ _ _ _ => trivial), by rw [hU]; exact vx_Zq.narrow (vx_Zq.moved hW.alike (vx_Zq.kept hp1 hS.2.1)) hFc, by rw [hU]; exact vx_Zq.narrow (vx_Zq.moved hW.alike (vx_Zq.kept hp2 hS.2.1)) hFc⟩⟩ rfl rfl hl.1 rfl (lv_room (Nat.le_of_ble_eq_true rfl)) dX19_text_33 ⟨(Nat.le_of_ble_eq_true rfl), (Nat.le_of_ble_eq_true rfl)⟩) hS (fun q _ h => hFc q h) hFc (fun q _ h => hFc q h) (fun E ce q9 u t H1 locs ht hvm _ hB hz1 hk1 hS hce hcv hcl => ?_) (fun  u t H1 locs ht hvm hw hB hz1 hk1 hS => ?_)
  · obtain ⟨rfl, hP1, hD1⟩ := hB
    rw [ht] at hP1
    obtain ⟨hP, hD⟩ := va_join (wr := [(h0, .inr (16, [.ref q_1, .ref q_12, .ref q_17, .ref q_22, .ref q_24, .ref q_26, .ref q_28, .ref q_29, .ref q_31, .ref q_33, .ref q_35, .int 0, .ref q_37, .ref q_39, .ref q_41, .ref q_43, .ref q_45, .ref q_47, .ref q_49, .ref q_51, .ref q_53, .ref q_55, .ref q_57, .int 0, .ref q_59, .ref q_61, .ref q_63, .int (-1), .int 0, .int 0, .int 0, .int 0, .ref q_65, .int 0, .ref q_68, .int 0, .int (-1), .int 0, .int 0, .ref q_70, .ref q_72]))]) (w1 := [(q9, .inr (15, [.null, .null, .null, .null, .null, .int 0, .int 0]))]) hP hD [3, 1, 2] [0] rfl rfl (by decide) (by decide) hk1 hFc hP1 hD1
    have hK := hK.sub (tys' := []) [] rfl
    generalize H1 = H at hP hS hce ⊢
    have hP : va_P (dC, dI) vwP [(h0, .inr (16, [.ref q_1, .ref q_12, .ref q_17, .ref q_22, .ref q_24, .ref q_26, .ref q_28, .ref q_29, .ref q_31, .ref q_33, .ref q_35, .int 0, .ref q_37, .ref q_39, .ref q_41, .ref q_43, .ref q_45, .ref q_47, .ref q_49, .ref q_51, .ref q_53, .ref q_55, .ref q_57, .int 0, .ref q_59, .ref q_61, .ref q_63, .int (-1), .int 0, .int 0, .int 0, .int 0, .ref q_65, .int 0, .ref q_68, .int 0, .int (-1), .int 0, .int 0, .ref q_70, .ref q_72])), (q9, .inr (15, [.null, .null, .null, .null, .null, .int 0, .int 0]))] H := hP
    have hD : va_D A [(h0, .inr (16, [.ref q_1, .ref q_12, .ref q_17, .ref q_22, .ref q_24, .ref q_26, .ref q_28, .ref q_29, .ref q_31, .ref q_33, .ref q_35, .int 0, .ref q_37, .ref q_39, .ref q_41, .ref q_43, .ref q_45, .ref q_47, .ref q_49, .ref q_51, .ref q_53, .ref q_55, .ref q_57, .int 0, .ref q_59, .ref q_61, .ref q_63, .int (-1), .int 0, .int 0, .int 0, .int 0, .ref q_65, .int 0, .ref q_68, .int 0, .int (-1), .int 0, .int 0, .ref q_70, .ref q_72])), (q9, .inr (15, [.null, .null, .null, .null, .null, .int 0, .int 0]))] := hD
    refine vx_widen (k := 4) (n := 53) (Nat.le_of_ble_eq_true rfl) (Nat.le_of_ble_eq_true rfl) ?_
    refine vx_catch (name := "SsaForgeModel$Wrong") hown [] ⟨12, 57, 60, 589⟩ [] (by rw [vx_table (x := yX19_text) B (hts _ List.mem_cons_self)]; rfl) (fun z hz => nomatch hz) (by decide) (by decide) (ow (k := 13) rfl) (va_Nw.use rfl hp3) hce hcv hcl ?_
    refine lv_astore_n (lv' := [(2, .ref q9), (1, .int (-1)), (0, .ref h0)]) hx hb dX19_text_60 rfl hl (by decide) rfl (fun ls hl => ?_)
    refine lv_aload_n hx hb dX19_text_61 rfl (lv_at hl 0 rfl) ?_
    refine va_get (D := (dC, dI)) (ci := 15) (v := .int 0) (C := RX18) (T := TX18) (N := 7) hx hb hts mem_X19_text_4 hown hK hP 1 rfl rfl 6 (by decide) (ow (k := 14) rfl) (fun _ h9 => h9) rfl dX19_text_62 ?_
    refine lv_istore_n (lv' := [(1, .int 0), (2, .ref q9), (0, .ref h0)]) hx hb dX19_text_65 rfl hl (by decide) rfl (fun ls hl => ?_)
    refine lv_aload_n hx hb dX19_text_66 rfl (lv_at hl 2 rfl) ?_
    refine lv_iconst (v := 1) hx hb dX19_text_67 (by decide) ?_
    refine va_put (D := (dC, dI)) (ci := 16) (v := .int 1) (ty := .int) (C := RX19) (T := TX19) (N := 41) hx hb hts mem_X19_text_0 tyX19 tyX19_ok nmX19 hown hK hP hD hS 0 rfl rfl 37 (by decide) (ow (k := 1) rfl) (fun _ h9 => h9) rfl (by decide +kernel) rfl rfl (Nat.le_of_ble_eq_true rfl) dX19_text_68 (fun H locs hP hD hS => ?_)
    have hP : va_P (dC, dI) vwP [(h0, .inr (16, [.ref q_1, .ref q_12, .ref q_17, .ref q_22, .ref q_24, .ref q_26, .ref q_28, .ref q_29, .ref q_31, .ref q_33, .ref q_35, .int 0, .ref q_37, .ref q_39, .ref q_41, .ref q_43, .ref q_45, .ref q_47, .ref q_49, .ref q_51, .ref q_53, .ref q_55, .ref q_57, .int 0, .ref q_59, .ref q_61, .ref q_63, .int (-1), .int 0, .int 0, .int 0, .int 0, .ref q_65, .int 0, .ref q_68, .int 0, .int (-1), .int 1, .int 0, .ref q_70, .ref q_72])), (q9, .inr (15, [.null, .null, .null, .null, .null, .int 0, .int 0]))] H := hP
    have hD : va_D A [(h0, .inr (16, [.ref q_1, .ref q_12, .ref q_17, .ref q_22, .ref q_24, .ref q_26, .ref q_28, .ref q_29, .ref q_31, .ref q_33, .ref q_35, .int 0, .ref q_37, .ref q_39, .ref q_41, .ref q_43, .ref q_45, .ref q_47, .ref q_49, .ref q_51, .ref q_53, .ref q_55, .ref q_57, .int 0, .ref q_59, .ref q_61, .ref q_63, .int (-1), .int 0, .int 0, .int 0, .int 0, .ref q_65, .int 0, .ref q_68, .int 0, .int (-1), .int 1, .int 0, .ref q_70, .ref q_72])), (q9, .inr (15, [.null, .null, .null, .null, .null, .int 0, .int 0]))] := hD
    refine lv_aload_n hx hb dX19_text_71 rfl (lv_at hl 2 rfl) ?_
    refine lv_iconst (v := 0) hx hb dX19_text_72 (by decide) ?_
    refine va_put (D := (dC, dI)) (ci := 16) (v := .int 0) (ty := .int) (C := RX19) (T := TX19) (N := 41) hx hb hts mem_X19_text_0 tyX19 tyX19_ok nmX19 hown hK hP hD hS 0 rfl rfl 35 (by decide) (ow (k := 6) rfl) (fun _ h9 => h9) rfl (by decide +kernel) rfl rfl (Nat.le_of_ble_eq_true rfl) dX19_text_73 (fun H locs hP hD hS => ?_)
    have hP : va_P (dC, dI) vwP [(h0, .inr (16, [.ref q_1, .ref q_12, .ref q_17, .ref q_22, .ref q_24, .ref q_26, .ref q_28, .ref q_29, .ref q_31, .ref q_33, .ref q_35, .int 0, .ref q_37, .ref q_39, .ref q_41, .ref q_43, .ref q_45, .ref q_47, .ref q_49, .ref q_51, .ref q_53, .ref q_55, .ref q_57, .int 0, .ref q_59, .ref q_61, .ref q_63, .int (-1), .int 0, .int 0, .int 0, .int 0, .ref q_65, .int 0, .ref q_68, .int 0, .int (-1), .int 1, .int 0, .ref q_70, .ref q_72])), (q9, .inr (15, [.null, .null, .null, .null, .null, .int 0, .int 0]))] H := hP
    have hD : va_D A [(h0, .inr (16, [.ref q_1, .ref q_12, .ref q_17, .ref q_22, .ref q_24, .ref q_26, .ref q_28, .ref q_29, .ref q_31, .ref q_33, .ref q_35, .int 0, .ref q_37, .ref q_39, .ref q_41, .ref q_43, .ref q_45, .ref q_47, .ref q_49, .ref q_51, .ref q_53, .ref q_55, .ref q_57, .int 0, .ref q_59, .ref q_61, .ref q_63, .int (-1), .int 0, .int 0, .int 0, .int 0, .ref q_65, .int 0, .ref q_68, .int 0, .int (-1), .int 1, .int 0, .ref q_70, .ref q_72])), (q9, .inr (15, [.null, .null, .null, .null, .null, .int 0, .int 0]))] := hD
    refine lv_aload_n hx hb dX19_text_76 rfl (lv_at hl 2 rfl) ?_
    refine lv_iload_n hx hb dX19_text_77 rfl (lv_at hl 0 rfl) ?_
    refine lv_if_ge (tgt := 85) hx hb dX19_text_78 (by decide) (fun _ => ?_) (fun h9 => absurd h9 (by decide))
    refine lv_iconst (v := (-1)) hx hb dX19_text_85 (by decide) ?_
    refine va_put (D := (dC, dI)) (ci := 16) (v := .int (-1)) (ty := .int) (C := RX19) (T := TX19) (N := 41) hx hb hts mem_X19_text_0 tyX19 tyX19_ok nmX19 hown hK hP hD hS 0 rfl rfl 36 (by decide) (ow (k := 15) rfl) (fun _ h9 => h9) rfl (by decide +kernel) rfl rfl (Nat.le_of_ble_eq_true rfl) dX19_text_86 (fun H locs hP hD hS => ?_)
    have hP : va_P (dC, dI) vwP [(h0, .inr (16, [.ref q_1, .ref q_12, .ref q_17, .ref q_22, .ref q_24, .ref q_26, .ref q_28, .ref q_29, .ref q_31, .ref q_33, .ref q_35, .int 0, .ref q_37, .ref q_39, .ref q_41, .ref q_43, .ref q_45, .ref q_47, .ref q_49, .ref q_51, .ref q_53, .ref q_55, .ref q_57, .int 0, .ref q_59, .ref q_61, .ref q_63, .int (-1), .int 0, .int 0, .int 0, .int 0, .ref q_65, .int 0, .ref q_68, .int 0, .int (-1), .int 1, .int 0, .ref q_70, .ref q_72])), (q9, .inr (15, [.null, .null, .null, .null, .null, .int 0, .int 0]))] H := hP
    have hD : va_D A [(h0, .inr (16, [.ref q_1, .ref q_12, .ref q_17, .ref q_22, .ref q_24, .ref q_26, .ref q_28, .ref q_29, .ref q_31, .ref q_33, .ref q_35, .int 0, .ref q_37, .ref q_39, .ref q_41, .ref q_43, .ref q_45, .ref q_47, .ref q_49, .ref q_51, .ref q_53, .ref q_55, .ref q_57, .int 0, .ref q_59, .ref q_61, .ref q_63, .int (-1), .int 0, .int 0, .int 0, .int 0, .ref q_65, .int 0, .ref q_68, .int 0, .int (-1), .int 1, .int 0, .ref q_70, .ref q_72])), (q9, .inr (15, [.null, .null, .null, .null, .null, .int 0, .int 0]))] := hD
    refine lv_aload_n hx hb dX19_text_89 rfl (lv_at hl 2 rfl) ?_
    refine va_get (D := (dC, dI)) (ci := 16) (v := .int (-1)) (C := RX19) (T := TX19) (N := 41) hx hb hts mem_X19_text_0 hown hK hP 0 rfl rfl 36 (by decide) (ow (k := 15) rfl) (fun _ h9 => h9) rfl dX19_text_90 ?_
    refine lv_if_ne (tgt := 100) hx hb dX19_text_93 (by decide) (fun _ => ?_) (fun h9 => absurd h9 (by decide))
    refine lv_iload_n hx hb dX19_text_100 rfl (lv_at hl 0 rfl) ?_
    have hP := hP.sub (ws' := []) [] rfl
    have hD := hD.sub (ws' := []) [] (by decide) rfl
    refine W.widen (k := 4) (n := 53) (Nat.le_of_ble_eq_true rfl) (Nat.le_of_ble_eq_true rfl) ?_
    exact W.iret (v := 0) hx hb hr (fun t ht hW => ⟨⟨0, (), rfl, rfl, by rw [ht]; exact hP, va_K.moved hW.alike hK, hD⟩, hS.F ht⟩) hS.2.2 dX19_text_101
  exact hw.elim
end
