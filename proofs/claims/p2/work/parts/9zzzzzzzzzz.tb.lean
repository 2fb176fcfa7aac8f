/-! tables: rows of rows that are made -/
section VTB
variable {p : Program} {l : Launch} {e : Env} {R : Room} {s : State} {m : MethodId} {args : Array Value} {below : List Frame} {meth : Method} {c : Code} {H H1 : Heap} {locs : List Loc} {cells slots : Nat} {Q : State → Prop}
variable {cc : ByteArray} {pc : Nat} {ls : Array Slot} {rest : List Value} {D : va_G} {cl : List vw_C} {A : Nat → Prop} {a : Nat} {tys : List (ClassId × FieldType)} {ws X : va_W} {H0 : Heap} {L : List Nat} {P : PO}
/-- the rows of a table are of that class -/
def va_CO (s : State) (cA comp : ClassId) (t : FieldType) : Prop := ∃ kA : Class, s.vm.classes[cA]? = some kA ∧ kA.kind = .array comp (.array t)
theorem va_K.tadd {cA : ClassId} {ty : FieldType} (hK : va_K D cl tys s) (h1 : ArrOfT s cA ty) (h2 : va_RA s cA ty) : va_K D cl (tys ++ [(cA, ty)]) s := hK.app ⟨hK.1, fun k q hk => by
  have k0 : k < 1 := (List.getElem?_eq_some_iff.mp hk).1
  rw [show k = 0 by omega] at hk
  cases hk
  exact ⟨h1, h2⟩⟩
theorem pl_growP {x : Nat} {e : va_E} (hP : va_P D cl ws H) (o : ∀ q : Nat, q < H.size → H1[q]? = H[q]?) (h : va_at D cl (x, e) H1) : va_P D cl (ws ++ [(x, e)]) H1 := by
  have k := hP.kept (H1 := H1) (fun k y hy => o y.1 ((hP k y hy).lt))
  refine pl_P.mpr fun q hq => ?_
  rcases List.mem_append.mp hq with w | w
  · exact pl_P.mp k q w
  · rw [List.mem_singleton.mp w]; exact h
theorem pl_growD {x : Nat} {e : va_E} (hD : va_D A ws) (lt : ∀ q ∈ ws, q.1 < x) (ha : A x) : va_D A (ws ++ [(x, e)]) := by
  have d := pl_D.mp hD
  refine pl_D.mpr ⟨?_, fun q hq => ?_⟩
  · rw [List.map_append]
    refine List.nodup_append.mpr ⟨d.1, by simp, fun y hy z hz => ?_⟩
    obtain ⟨q, hq, rfl⟩ := List.mem_map.mp hy
    have hz' : z = x := by simpa using hz
    rw [hz']
    exact Nat.ne_of_lt (lt q hq)
  · rcases List.mem_append.mp hq with w | w
    · exact d.2 q w
    · rw [List.mem_singleton.mp w]; exact ha
theorem pl_ltH (hP : va_P D cl ws H) : ∀ q ∈ ws, q.1 < H.size := fun q hq => (pl_P.mp hP q hq).lt
theorem vtb_grow (hS : va_S A H0 H locs) (z : H.size ≤ H1.size) (o : ∀ q : Nat, q < H.size → H1[q]? = H[q]?) : va_S A H0 H1 locs := ⟨Nat.le_trans hS.1 z, fun x h1 h2 => (o x (Nat.lt_of_lt_of_le h1 hS.1)).trans (hS.2.1 x h1 h2), hS.2.2⟩
/-- a new table, with nothing in it -/
theorem va_newt (hexec : p.tables.exec = Jvm.exec) (hb : c.code = cc) {own : String} {index : Nat} {t : FieldType} {cI : ClassId} (hown : s.vm.findClass own = some m.cls) (hclink : (Cond.classLink own index (FieldType.array t).toString).before args s = true) (hover : vy_AO t s) (hci : s.vm.findClass (FieldType.array t).toString = some cI)
    (hK : va_K D cl tys s) (hP : va_P D cl ws H) (hD : va_D A ws) (hS : va_S A H0 H locs) (hA : ∀ q, H0.size ≤ q → A q) {n : Int32} {N' : Nat} (hn : ¬ n < 0) (hN : n.toNatClampNeg = N') (hbytes : N' * 4 ≤ 536870912) (hcells : cells + 1 ≤ R.cells) (hslots : slots + N' ≤ R.slots) (hdg : decode cc pc = .ok (.anewarray index, 3))
    (kk : ∀ (q : Nat) (cA : ClassId) (H1 : Heap), va_CO s cA cI t → va_K D cl (tys ++ [(cA, .array t)]) s → va_P D cl (ws ++ [(q, .inl (cA, N', .inr (.inr (.inr (.inr (fun _ => none))))))]) H1 → va_D A (ws ++ [(q, .inl (cA, N', .inr (.inr (.inr (.inr (fun _ => none))))))]) → va_S A H0 H1 locs →
      W p l e R s m args below meth c H1 locs (cells + 1) (slots + N') Q (F0 m (pc + 3) ls (.ref q :: rest))) : W p l e R s m args below meth c H locs cells slots Q (F0 m pc ls (.int n :: rest)) := by
  subst hN
  refine W.anewA hexec hb hown hclink hover rfl hdg rfl hn hbytes hcells hslots fun cA kA comp f1 f2 f3 f4 => ?_
  have ec : comp = cI := Option.some.inj (f4.symm.trans hci)
  subst ec
  generalize hH1 : H.push ({ cls := cA, slots := Array.replicate n.toNatClampNeg .null, vm := .none } : Cell) = H1
  have z1 : H1.size = H.size + 1 := by rw [← hH1, Array.size_push]
  have e1 : H1[H.size]? = some (arrV cA n.toNatClampNeg (fun _ => .null)) := by rw [← hH1, Array.getElem?_push_size, ← arrV_new]
  have o1 : ∀ q : Nat, q < H.size → H1[q]? = H[q]? := fun q hq => by rw [← hH1, Array.getElem?_push, if_neg (Nat.ne_of_lt hq)]
  refine kk H.size cA H1 ⟨kA, f2, f3⟩ (hK.tadd (fun N z => ⟨(fun k h => by cases h), kA, f2, comp, f3⟩) f1) (pl_growP hP o1 ?_) (pl_growD hD (pl_ltH hP) (hA _ hS.1)) (vtb_grow hS (by omega) o1)
  show H1[H.size]? = some (vp_cell _ _)
  rw [vp_cell_q]
  exact e1
/-- a row put into a new table -/
theorem va_astt (hexec : p.tables.exec = Jvm.exec) (hb : c.code = cc) (hP : va_P D cl ws H) (hD : va_D A ws) (hS : va_S A H0 H locs) (q0 : Nat) {cA cI : ClassId} {t : FieldType} {C : String} {n v : Nat} {f : Nat → Option Nat} (ha : ws[q0]? = some (a, .inl (cA, n, .inr (.inr (.inr (.inr f)))))) (hco : va_CO s cA cI t) (hci : s.vm.findClass C = some cI) (hv : ∃ (k M : Nat) (g : Nat → Int32), ws[k]? = some (v, .inl (cI, M, .inl g))) {i : Int32} (hin : vp_in i n) (hdg : decode cc pc = .ok (.aastore, 1))
    (kk : ∀ (H1 : Heap) (locs1 : List Loc), va_P D cl (ws.set q0 (a, .inl (cA, n, .inr (.inr (.inr (.inr (va_up f i.toNatClampNeg (some v)))))))) H1 → va_D A (ws.set q0 (a, .inl (cA, n, .inr (.inr (.inr (.inr (va_up f i.toNatClampNeg (some v)))))))) → va_S A H0 H1 locs1 → W p l e R s m args below meth c H1 locs1 cells slots Q (F0 m (pc + 1) ls rest)) : W p l e R s m args below meth c H locs cells slots Q (F0 m pc ls (.ref v :: .int i :: .ref a :: rest)) := by
  have hlt : i.toNatClampNeg < n := Nat.not_le.mp fun q => hin (Or.inr q)
  have h0 : ¬ i < 0 := fun q => hin (Or.inl q)
  obtain ⟨kA, k1, k2⟩ := hco
  obtain ⟨kC, hkC, -⟩ := Vm.findClass_spec hci
  obtain ⟨k, M, g, hk⟩ := hv
  have hcv : H[v]? = some (arrV cI M (fun j => .int (g j))) := hP k _ hk
  refine W.aast hexec hb (hP q0 _ ha) (fun q h => by cases h) (fun h => by cases h) k1 k2 rfl hkC ⟨h0, by show _ < (arrV _ _ _).slots.size; rw [arrV_size]; exact hlt⟩ hcv (fun q h => by cases h) hkC (by show s.vm.assignable cI cI = true; unfold Vm.assignable; rw [Vm.assignableAux]; simp only [beq_self_eq_true, Bool.true_or]) rfl rfl hdg fun H1 e z oq => ?_
  refine kk H1 _ (hP.set hD ha ?_ oq) (hD.set ha) (hS.put z oq (hD.2 q0 _ ha))
  show H1[a]? = some (vp_cell _ _)
  rw [e, vp_cell_q, vp_cell_q, arrV_store]
  congr 2
  funext q
  by_cases hq : q = i.toNatClampNeg
  · subst hq
    simp [updV, va_up, va_rf]
  · simp [updV, va_up, hq]
/-- all that has come is of that kind -/
def NUMK (k : Nat) (L L' : List Nat) (P' : PO) : Prop := ∀ z : Nat, z ∈ L' → z ∉ L → P'.kd z = k
theorem NUMK.one {k y n q : Nat} {c : ClassId} {a : Int → Int} : NUMK k L (q :: L) (P.mnum q k y c n a) := fun z m n0 => by
  rcases List.mem_cons.mp m with e | e
  · rw [e]; exact (mnum_arf L P q k y c n a).1.2.1
  · exact absurd e n0
theorem NUMK.refl (k : Nat) (L : List Nat) (P : PO) : NUMK k L L P := fun _ m n => absurd m n
theorem NUMK.trans {k : Nat} {L' L2 : List Nat} {P' P2 : PO} (h : NUMK k L L' P') (j : NUMK k L' L2 P2) (e : EXT9 L' P' L2 P2) : NUMK k L L2 P2 := fun z m n => by
  by_cases q : z ∈ L'
  · exact ((e z q).2.2.1 0).trans (h z q n)
  · exact j z m q
/-- rows that come one after another -/
def tbL (L : List Nat) (a : Nat) : Nat → List Nat
  | 0 => L
  | i + 1 => (a + i) :: tbL L a i
def PO.tbP (P : PO) (a k : Nat) (c : ClassId) (M : Nat) : Nat → PO
  | 0 => P
  | i + 1 => (PO.tbP P a k c M i).mnum (a + i) k 0 c M (fun _ => 0)
theorem tb_all {a k M N : Nat} {c : ClassId} (hk : 40 ≤ k) (hP : va_P D cl (X ++ va_pl L (pE P)) H) (hD : va_D A (X ++ va_pl L (pE P))) (lt : ∀ q ∈ X ++ va_pl L (pE P), q.1 < a) (hA : ∀ i : Nat, A (a + i)) (hc : ∀ i : Nat, i < N → H[a + i]? = some (arrV c M (fun _ => .int 0))) :
    ∀ i : Nat, i ≤ N → va_P D cl (X ++ va_pl (tbL L a i) (pE (P.tbP a k c M i))) H ∧ va_D A (X ++ va_pl (tbL L a i) (pE (P.tbP a k c M i))) ∧ (∀ q ∈ X ++ va_pl (tbL L a i) (pE (P.tbP a k c M i)), q.1 < a + i) ∧ EXT9 L P (tbL L a i) (P.tbP a k c M i) ∧ NUMK k L (tbL L a i) (P.tbP a k c M i) ∧ (∀ j : Nat, j < i → ARF9 (tbL L a i) (P.tbP a k c M i) (a + j) k 0 c M ∧ (P.tbP a k c M i).ia (a + j) = (fun _ => 0))
  | 0, _ => ⟨hP, hD, lt, EXT9.refl L P, NUMK.refl k L P, fun j h => absurd h (Nat.not_lt_zero _)⟩
  | i + 1, hi => by
    obtain ⟨p1, p2, p3, p4, p5, p6⟩ := tb_all (k := k) hk hP hD lt hA hc i (by omega)
    have n9 : a + i ∉ tbL L a i := fun h => by
      have := p3 (a + i, pE (P.tbP a k c M i) (a + i)) (List.mem_append_right _ (List.mem_map.mpr ⟨a + i, h, rfl⟩))
      exact Nat.lt_irrefl _ this
    have w1 := pl_Pp (pl_new (X := X) (pl := va_pl (tbL L a i) (pE (P.tbP a k c M i)))) (pl_growP (x := a + i) (e := numE c M (fun _ => 0)) p1 (fun _ _ => rfl) (by
      rw [numE_0]; show H[a + i]? = some (vp_cell _ _); rw [vp_cell_i]; exact hc i (by omega)))
    have w2 := pl_Dp (pl_new (X := X) (pl := va_pl (tbL L a i) (pE (P.tbP a k c M i)))) (pl_growD (x := a + i) (e := numE c M (fun _ => 0)) p2 p3 (hA i))
    obtain ⟨q1, q2⟩ := pool_new (P' := P.tbP a k c M (i + 1)) (pE_mnum _ _ _ _ _ _ _ hk) w1 w2
    have x1 : EXT9 (tbL L a i) (P.tbP a k c M i) (tbL L a (i + 1)) (P.tbP a k c M (i + 1)) := EXT9.one n9
    have x2 : NUMK k (tbL L a i) (tbL L a (i + 1)) (P.tbP a k c M (i + 1)) := NUMK.one
    refine ⟨q1, q2, fun q hq => ?_, p4.trans x1, p5.trans x2 x1, fun j hj => ?_⟩
    · rcases List.mem_append.mp hq with w | w
      · have := p3 q (List.mem_append_left _ w); omega
      · obtain ⟨z, hz, e⟩ := List.mem_map.mp w
        rcases List.mem_cons.mp hz with r | r
        · rw [← e]; show z < a + (i + 1); omega
        · have := p3 (z, pE (P.tbP a k c M i) z) (List.mem_append_right _ (List.mem_map.mpr ⟨z, r, rfl⟩))
          rw [← e]; show z < a + (i + 1); have h2 : z < a + i := this; omega
    · rcases Nat.lt_or_ge j i with w | w
      · obtain ⟨f1, f2⟩ := p6 j w
        exact ⟨x1.arf f1, ((x1 _ f1.1).2.2.2.2.1).trans f2⟩
      · rw [show j = i by omega]
        exact mnum_arf _ _ _ _ _ _ _ _
theorem outer_mk (cA : ClassId) (N h0 : Nat) : ∀ i : Nat, Jvm.Free.Multi.outerC cA N h0 i = { cls := cA, slots := (Jvm.Free.Multi.outerC cA N h0 i).slots, vm := .none }
  | 0 => rfl
  | i + 1 => by
    have h := outer_mk cA N h0 i
    show (Jvm.Free.Multi.outerC cA N h0 i).setSlot i (.ref (h0 + 1 + i)) = { cls := cA, slots := ((Jvm.Free.Multi.outerC cA N h0 i).setSlot i (.ref (h0 + 1 + i))).slots, vm := .none }
    rw [h]
    rfl
theorem outer_arrV (cA : ClassId) (N h0 : Nat) : Jvm.Free.Multi.outerC cA N h0 N = arrV cA N (fun j => va_rf (if j < N then some (h0 + 1 + j) else none)) := by
  obtain ⟨a, b, d⟩ := Jvm.Free.Multi.outerC_facts cA N h0 N
  have s : (Jvm.Free.Multi.outerC cA N h0 N).slots = (arrV cA N (fun j => va_rf (if j < N then some (h0 + 1 + j) else none))).slots := by
    apply Array.ext_getElem?
    intro i
    by_cases hi : i < N
    · rw [Jvm.Free.Multi.outerC_slot _ _ _ _ _ hi, arrV_read _ _ hi, if_pos hi, if_pos hi]; rfl
    · rw [Array.getElem?_eq_none (by rw [d]; omega), Array.getElem?_eq_none (by rw [arrV_size]; omega)]
  exact (outer_mk cA N h0 N).trans (by rw [s]; rfl)
/-- a square of booleans, its rows in the pool -/
theorem va_newm (hexec : p.tables.exec = Jvm.exec) (hb : c.code = cc) {own : String} {index : Nat} {cZ : ClassId} (hown : s.vm.findClass own = some m.cls) (hclink : (Cond.classLink own index ("[" ++ (FieldType.array .boolean).toString)).before args s = true) (hover : vy_AO .boolean s) (harr : (Cond.arrayClass .boolean).before args s = true) (hci : s.vm.findClass (FieldType.array .boolean).toString = some cZ)
    (hK : va_K D vwQ tys s) (hP : va_P D vwQ (X ++ va_pl L (pE P)) H) (hD : va_D A (X ++ va_pl L (pE P))) (hS : va_S A H0 H locs) (hA : ∀ q, H0.size ≤ q → A q) {n k : Int32} {N M K kd : Nat} (hkd : 40 ≤ kd) (hn : ¬ n < 0) (hk : ¬ k < 0) (hN : n.toNatClampNeg = N) (hM : k.toNatClampNeg = M) (hb1 : N ≤ 1000) (hb2 : M ≤ 1000) (hNM : N * M = K)
    (hcells : cells + (1 + N) ≤ R.cells) (hslots : slots + (N + K) ≤ R.slots) (hdg : decode cc pc = .ok (.multianewarray index 2, 4))
    (kk : ∀ (q : Nat) (cA : ClassId) (H1 : Heap) (f : Nat → Option Nat) (L1 : List Nat) (P1 : PO), va_K D vwQ (tys ++ [(cA, .array .boolean)]) s → va_P D vwQ ((X ++ [(q, .inl (cA, N, .inr (.inr (.inr (.inr f)))))]) ++ va_pl L1 (pE P1)) H1 → va_D A ((X ++ [(q, .inl (cA, N, .inr (.inr (.inr (.inr f)))))]) ++ va_pl L1 (pE P1)) → va_S A H0 H1 locs → EXT9 L P L1 P1 → NUMK kd L L1 P1 →
      (∀ j : Nat, j < N → ∃ y : Nat, f j = some y ∧ ARF9 L1 P1 y kd 0 cZ M ∧ P1.ia y = (fun _ => 0)) → (∀ i j : Nat, i < N → j < N → f i = f j → i = j) → W p l e R s m args below meth c H1 locs (cells + 1 + N) (slots + N + K) Q (F0 m (pc + 4) ls (.ref q :: rest))) : W p l e R s m args below meth c H locs cells slots Q (F0 m pc ls (.int k :: .int n :: rest)) := by
  subst hN; subst hM; subst hNM
  intro T hT X0
  subst hT
  obtain ⟨vm₁, cA, comp, hW, hfA, hfC, hO, hI, X1, st⟩ := X0.multianewarray2F hexec (own := own) (index := index) (ty := .boolean) hown hclink hover harr (g := F0 m pc ls (.int k :: .int n :: rest)) rfl (by rw [hb]; exact hdg) rfl hn hk (by omega) (by show _ * 1 ≤ _; omega) (by omega) rfl rfl hcells hslots
  have ec : comp = cZ := Option.some.inj (hfC.symm.trans hci)
  subst ec
  obtain ⟨f1, f2, -, -⟩ := Jvm.Free.Multi.fill_facts (T.setVm vm₁) cA comp n.toNatClampNeg k.toNatClampNeg (defaultValue .boolean) n.toNatClampNeg
  have fo := fun (b : Addr) (hb : b < T.heap.size) => Jvm.Free.Multi.fill_old (T.setVm vm₁) cA comp n.toNatClampNeg k.toNatClampNeg (defaultValue .boolean) (a := b) hb n.toNatClampNeg
  have fi := fun (j : Nat) (hj : j < n.toNatClampNeg) => Jvm.Free.Multi.fill_inner (T.setVm vm₁) cA comp n.toNatClampNeg k.toNatClampNeg (defaultValue .boolean) n.toNatClampNeg j hj
  generalize hF : Jvm.Free.Multi.fill (T.setVm vm₁) cA comp n.toNatClampNeg k.toNatClampNeg (defaultValue .boolean) n.toNatClampNeg = F at f1 f2 fo fi X1 st
  have z1 : F.heap.size = T.heap.size + 1 + n.toNatClampNeg := f1
  have o1 : ∀ q : Nat, q < T.heap.size → F.heap[q]? = T.heap[q]? := fo
  have e1 : F.heap[T.heap.size]? = some (arrV cA n.toNatClampNeg (fun j => va_rf (if j < n.toNatClampNeg then some (T.heap.size + 1 + j) else none))) := f2.trans (congrArg some (outer_arrV cA n.toNatClampNeg T.heap.size))
  have i1 : ∀ i : Nat, i < n.toNatClampNeg → F.heap[T.heap.size + 1 + i]? = some (arrV comp k.toNatClampNeg (fun _ => .int 0)) := fun i hi => (fi i hi).trans (congrArg some (arrV_new comp k.toNatClampNeg (.int 0)))
  have g1 := pl_growP (x := T.heap.size) (e := .inl (cA, n.toNatClampNeg, .inr (.inr (.inr (.inr (fun j => if j < n.toNatClampNeg then some (T.heap.size + 1 + j) else none)))))) hP o1 (by show F.heap[T.heap.size]? = some (vp_cell _ _); rw [vp_cell_q]; exact e1)
  have g2 := pl_growD (x := T.heap.size) (e := .inl (cA, n.toNatClampNeg, .inr (.inr (.inr (.inr (fun j => if j < n.toNatClampNeg then some (T.heap.size + 1 + j) else none)))))) hD (pl_ltH hP) (hA _ hS.1)
  have g3 : ∀ q ∈ (X ++ va_pl L (pE P)) ++ [(T.heap.size, (.inl (cA, n.toNatClampNeg, .inr (.inr (.inr (.inr (fun j => if j < n.toNatClampNeg then some (T.heap.size + 1 + j) else none))))) : va_E))], q.1 < T.heap.size + 1 := fun q hq => by
    rcases List.mem_append.mp hq with w | w
    · have := pl_ltH hP q w; omega
    · rw [List.mem_singleton.mp w]; show T.heap.size < _; omega
  have g0 := pl_new (X := X) (pl := va_pl L (pE P)) (c := (T.heap.size, (.inl (cA, n.toNatClampNeg, .inr (.inr (.inr (.inr (fun j => if j < n.toNatClampNeg then some (T.heap.size + 1 + j) else none))))) : va_E)))
  obtain ⟨q1, q2, -, q4, q5, q6⟩ := tb_all (k := kd) hkd (pl_Pp g0 g1) (pl_Dp g0 g2) (fun q hq => g3 q (g0.mem_iff.mpr hq)) (fun i => hA _ (Nat.le_trans hS.1 (by omega))) i1 n.toNatClampNeg (Nat.le_refl _)
  obtain ⟨-, kA, k2, comp2, k3⟩ := (hO 0 0 0).1
  obtain ⟨t, a1, b1⟩ := kk T.heap.size cA F.heap _ _ _ (hK.tadd (fun N z => ⟨(fun k h => by cases h), kA, k2, comp2, k3⟩) hfA) q1 q2 (vtb_grow hS (by omega) o1) q4 q5 (fun j hj => ⟨T.heap.size + 1 + j, if_pos hj, q6 j hj⟩) (fun i j hi hj eq => by
    have e2 : some (T.heap.size + 1 + i) = some (T.heap.size + 1 + j) := ((if_pos hi).symm.trans eq).trans (if_pos hj)
    have := Option.some.inj e2
    omega) F rfl X1
  exact ⟨t, st t a1, b1⟩
end VTB
/-! a pool without its tables; tables that change -/
section SUB9
variable {L L0 L' : List Nat} {P P' : PO} {cO cI cZ : ClassId} {ed la x : Nat} {E : List Nat}
/-- all but (some of) the rows of tables -/
def SUB9 (L0 L : List Nat) (P : PO) : Prop := (∀ z : Nat, z ∈ L0 → z ∈ L) ∧ ∀ z : Nat, z ∈ L → P.kd z < 43 → z ∈ L0
theorem LOK.sub {k : Nat} (h : LOK L P cO k x) (hk : k < 43) (s : SUB9 L0 L P) : LOK L0 P cO k x := ⟨s.2 _ h.1 (by rw [h.2.1]; decide), h.2.1, h.2.2.1, h.2.2.2.1.imp id (fun q => ⟨s.2 _ q.1 (by rw [q.2.1]; decide), q.2⟩), fun i i0 i1 => ⟨(h.2.2.2.2 i i0 i1).1, s.2 _ (h.2.2.2.2 i i0 i1).2.1 (by rw [(h.2.2.2.2 i i0 i1).2.2]; exact hk), (h.2.2.2.2 i i0 i1).2.2⟩⟩
theorem BOK.sub {n : Int} (h : BOK L P cO n x) (s : SUB9 L0 L P) : BOK L0 P cO n x := ⟨⟨s.2 _ h.1.1 (by rw [h.1.2]; decide), h.1.2⟩, h.2.1.sub (by decide) s, h.2.2.1.sub (by decide) s, ⟨s.2 _ h.2.2.2.1.1 (by rw [h.2.2.2.1.2]; decide), h.2.2.2.1.2⟩, h.2.2.2.2⟩
theorem PIK.sub (h : PIK L P cI cZ x) (s : SUB9 L0 L P) : PIK L0 P cI cZ x := ⟨⟨s.2 _ h.1.1 (by rw [h.1.2]; decide), h.1.2⟩, ⟨s.2 _ h.2.1.1 (by rw [h.2.1.2.1]; decide), h.2.1.2⟩, ⟨s.2 _ h.2.2.1.1 (by rw [h.2.2.1.2.1]; decide), h.2.2.1.2⟩, ⟨s.2 _ h.2.2.2.1.1 (by rw [h.2.2.2.1.2.1]; decide), h.2.2.2.1.2⟩, h.2.2.2.2⟩
theorem ELS.sub {f : Nat → Option Nat} (h : ELS L P f) (s : SUB9 L0 L P) : ELS L0 P f := fun j y e => ⟨s.2 _ (h j y e).1 (by have k := (h j y e).2; unfold OBK at k; omega), (h j y e).2⟩
theorem OWA.sub (h : OWA L P cO ed) (s : SUB9 L0 L P) : OWA L0 P cO ed := fun x m k => ⟨(h x (s.1 x m) k).1, fun f => by
  obtain ⟨a1, a2, a3, a4, a5⟩ := (h x (s.1 x m) k).2 f
  exact ⟨s.2 _ a1 (by rw [a2]; decide), a2, a3, a4.sub s, a5⟩⟩
theorem OWC.sub (h : OWC L P) (s : SUB9 L0 L P) : OWC L0 P := fun x m k => by
  obtain ⟨⟨a1, a2, a3, a4⟩, b1, b2, b3, b4⟩ := h x (s.1 x m) k
  exact ⟨⟨a1, a2, s.2 _ a3 (by rw [a4]; decide), a4⟩, b1, b2, s.2 _ b3 (by rw [b4]; decide), b4⟩
theorem GLO.sub (h : GLO L P cO) (s : SUB9 L0 L P) : GLO L0 P cO := ⟨fun x m k => by
  obtain ⟨a1, a2, a3⟩ := h.1 x (s.1 x m) k
  exact ⟨a1.sub (by omega) s, a2, a3⟩, fun x m k => by
  obtain ⟨⟨a1, a2, a3⟩, a4⟩ := h.2.1 x (s.1 x m) k
  exact ⟨⟨s.2 _ a1 (by rw [a2]; decide), a2, a3⟩, a4⟩, fun q m k e => h.2.2 q (s.1 q m) k e⟩
theorem ALP.sub (h : ALP L P cO cI cZ ed la) (s : SUB9 L0 L P) : ALP L0 P cO cI cZ ed la :=
  ⟨⟨⟨h.1.1.1.sub (by decide) s, h.1.1.2.1, fun i i0 i1 => (h.1.1.2.2.1 i i0 i1).sub s, fun q m k => h.1.1.2.2.2 q (s.1 q m) k⟩, fun q m k => (h.1.2 q (s.1 q m) k).sub s⟩, ⟨OWA.sub (L := L) h.2.1.1 s, h.2.1.2.1, OWC.sub (L := L) h.2.1.2.2.1 s, h.2.1.2.2.2⟩, h.2.2.1, h.2.2.2.sub s⟩
theorem GLF.sub (h : GLF L P cO cI cZ ed) (s : SUB9 L0 L P) : GLF L0 P cO cI cZ ed := ⟨h.1.sub s, fun q m k => h.2.1 q (s.1 q m) k, fun q m k => (h.2.2.1 q (s.1 q m) k).sub s, h.2.2.2.1.sub s, h.2.2.2.2.sub s⟩
/-- nothing but rows of tables has come, and nothing but rows of the tables of kind k has other contents -/
def CHX (k : Nat) (L : List Nat) (P : PO) (L' : List Nat) (P' : PO) : Prop := (∀ z : Nat, z ∈ L → z ∈ L' ∧ (∀ f : Nat, P'.1 f z = P.1 f z) ∧ (∀ f : Nat, P'.2.1 f z = P.2.1 f z) ∧ P'.oa z = P.oa z ∧ P'.ac z = P.ac z ∧ (P.kd z ≠ k → P'.ia z = P.ia z)) ∧ ∀ z : Nat, z ∈ L' → z ∉ L → 43 ≤ P'.kd z
theorem CHX.refl (k : Nat) (L : List Nat) (P : PO) : CHX k L P L P := ⟨fun z m => ⟨m, fun _ => rfl, fun _ => rfl, rfl, rfl, fun _ => rfl⟩, fun z m n => absurd m n⟩
theorem CHX.trans {k : Nat} {L2 : List Nat} {P2 : PO} (h : CHX k L P L' P') (j : CHX k L' P' L2 P2) : CHX k L P L2 P2 := ⟨fun z m => by
  obtain ⟨a0, a1, a2, a3, a4, a5⟩ := h.1 z m
  obtain ⟨b0, b1, b2, b3, b4, b5⟩ := j.1 z a0
  have e : P'.kd z = P.kd z := a2 0
  exact ⟨b0, fun f => (b1 f).trans (a1 f), fun f => (b2 f).trans (a2 f), b3.trans a3, b4.trans a4, fun q => (b5 (by rw [e]; exact q)).trans (a5 q)⟩, fun z m n => by
  by_cases q : z ∈ L'
  · rw [show P2.kd z = P'.kd z from (j.1 z q).2.2.1 0]; exact h.2 z q n
  · exact j.2 z m q⟩
theorem CHX.ri9 {k y : Nat} {g : Int → Int} (h : P.kd y = k) : CHX k L P L (P.ri9 y g) := ⟨fun z m => ⟨m, fun _ => rfl, fun _ => rfl, rfl, rfl, fun q => ri9_of P g (fun e => q (by rw [e]; exact h))⟩, fun z m n => absurd m n⟩
theorem EXT9.chx {k : Nat} (e : EXT9 L P L' P') (n : ∀ z : Nat, z ∈ L' → z ∉ L → 43 ≤ P'.kd z) : CHX k L P L' P' := ⟨fun z m => by
  obtain ⟨a0, a1, a2, a3, a4, a5⟩ := e z m
  exact ⟨a0, a1, a2, a3, a5, fun _ => a4⟩, n⟩
theorem CHX.num {k j : Nat} (e : EXT9 L P L' P') (n : NUMK j L L' P') (h : 43 ≤ j) : CHX k L P L' P' := e.chx (fun z m q => by rw [n z m q]; exact h)
theorem CHX.low (L : List Nat) (P : PO) : SUB9 (L.filter (fun z => decide (P.kd z < 43))) L P := ⟨fun z m => (List.mem_filter.mp m).1, fun z m k => List.mem_filter.mpr ⟨m, by simpa using k⟩⟩
theorem CHX.ext {k : Nat} (c : CHX k L P L' P') (hk : 43 ≤ k) : EXT9 (L.filter (fun z => decide (P.kd z < 43))) P L' P' := fun z m => by
  obtain ⟨m1, m2⟩ := List.mem_filter.mp m
  have m3 : P.kd z < 43 := by simpa using m2
  obtain ⟨a0, a1, a2, a3, a4, a5⟩ := c.1 z m1
  exact ⟨a0, a1, a2, a3, a5 (by omega), a4⟩
theorem CHX.new {k : Nat} (c : CHX k L P L' P') : ∀ z : Nat, z ∈ L' → z ∉ L.filter (fun z => decide (P.kd z < 43)) → NEW1 L' P' cO cI cZ ed z := fun z m n => by
  have w : 43 ≤ P'.kd z := by
    by_cases q : z ∈ L
    · have e : P'.kd z = P.kd z := (c.1 z q).2.2.1 0
      have : ¬ P.kd z < 43 := fun r => n ((CHX.low L P).2 z q r)
      omega
    · exact c.2 z m q
  exact ⟨fun q => by omega, fun q => by omega, fun q => by omega, fun q => by omega⟩
theorem ALP.chx {k : Nat} (h : ALP L P cO cI cZ ed la) (c : CHX k L P L' P') (hk : 43 ≤ k) : ALP L' P' cO cI cZ ed la := (h.sub (CHX.low L P)).ext (c.ext hk) c.new
theorem GLF.chx {k : Nat} (h : GLF L P cO cI cZ ed) (c : CHX k L P L' P') (hk : 43 ≤ k) : GLF L' P' cO cI cZ ed := (h.sub (CHX.low L P)).ext (c.ext hk) c.new
theorem ALP.chxk {k : Nat} (h : ALP L P cO cI cZ ed la) (c : CHX k L P L' P') (hk : 43 ≤ k) : KEP E L P L' P' la := by
  have w : KEP E _ P L' P' la := (c.ext hk).kep (h.sub (CHX.low L P))
  refine ⟨fun y m q => ?_, fun y m q => w.2.1 y ((CHX.low L P).2 y m (by omega)) q, w.2.2⟩
  by_cases r : P.kd y < 43
  · exact w.1 y ((CHX.low L P).2 y m r) q
  · exact ⟨(c.1 y m).1, (c.1 y m).2.2.1 0, (c.1 y m).2.2.1 8, fun q2 => absurd q2 (by omega), fun k2 => by unfold PKD at k2; omega⟩
theorem ALP.chxt {k : Nat} (h : ALP L P cO cI cZ ed la) (c : CHX k L P L' P') (hk : 43 ≤ k) : P'.tot 2 la = P.tot 2 la ∧ P'.tot 1 la = P.tot 1 la := (c.ext hk).tot (h.sub (CHX.low L P))
theorem ALP.chxc {k : Nat} (h : ALP L P cO cI cZ ed la) (c : CHX k L P L' P') (hk : 43 ≤ k) : P'.cat 2 la = P.cat 2 la ∧ P'.cat 1 la = P.cat 1 la := (c.ext hk).cat (h.sub (CHX.low L P))
variable {k : Nat} {c : ClassId} {f : Nat → Option Nat} {n len lo hi : Int}
/-- what a row of a table is -/
def TR9 (L : List Nat) (P : PO) (k : Nat) (c : ClassId) (len lo hi : Int) (y : Nat) : Prop := (y ∈ L ∧ P.kd y = k ∧ P.ac y = c) ∧ (len ≤ P.an y ∧ (P.an y : Int) ≤ 2000) ∧ ∀ i : Int, lo ≤ P.ia y i ∧ P.ia y i ≤ hi
theorem TBK.at (h : TBK L P k c f n len lo hi) {j : Int} (j0 : 0 ≤ j) (j1 : j < n) {y : Nat} (e : f j.toNat = some y) : TR9 L P k c len lo hi y := by
  obtain ⟨z, e2, r⟩ := h j j0 j1
  rw [e] at e2
  cases e2
  exact r
theorem TBK.none (L : List Nat) (P : PO) (k : Nat) (c : ClassId) (f : Nat → Option Nat) (len lo hi : Int) (h : n ≤ 0) : TBK L P k c f n len lo hi := fun j j0 j1 => by omega
theorem TBK.wk {n2 : Int} (h : TBK L P k c f n len lo hi) (m : n2 ≤ n) : TBK L P k c f n2 len lo hi := fun j j0 j1 => h j j0 (by omega)
theorem TBK.put {y : Nat} {i : Int} (h : TBK L P k c f i len lo hi) (i0 : 0 ≤ i) (r : TR9 L P k c len lo hi y) : TBK L P k c (va_up f i.toNat (some y)) (i + 1) len lo hi := fun j j0 j1 => by
  by_cases e : j = i
  · rw [e]; exact ⟨y, va_up_self _ _ _, r⟩
  · obtain ⟨z, e2, q⟩ := h j j0 (by omega)
    exact ⟨z, (va_up_ne _ _ (by omega)).trans e2, q⟩
theorem TR9.ext {y : Nat} (h : TR9 L P k c len lo hi y) (e : EXT9 L P L' P') : TR9 L' P' k c len lo hi y := by
  obtain ⟨⟨a1, a2, a3⟩, a4, a5⟩ := h
  obtain ⟨m, s1, s2, s3, s4, s5⟩ := e y a1
  have an : P'.an y = P.an y := s2 1
  exact ⟨⟨m, (s2 0).trans a2, s5.trans a3⟩, by rw [an]; exact a4, fun i => by rw [s4]; exact a5 i⟩
theorem TBK.ext (h : TBK L P k c f n len lo hi) (e : EXT9 L P L' P') : TBK L' P' k c f n len lo hi := fun j j0 j1 => by
  obtain ⟨y, e2, r⟩ := h j j0 j1
  exact ⟨y, e2, TR9.ext r e⟩
theorem TR9.arf {y M : Nat} (h : ARF9 L P y k 0 c M) (g : P.ia y = (fun _ => 0)) (l0 : len ≤ M) (l1 : M ≤ 2000) (a : lo ≤ 0) (b : 0 ≤ hi) : TR9 L P k c len lo hi y := by
  obtain ⟨a1, a2, a3, a4, a5⟩ := h
  exact ⟨⟨a1, a2, a3⟩, by rw [a5]; omega, fun i => by rw [g]; exact ⟨a, b⟩⟩
theorem TBK.arf {N M : Nat} (h : ∀ j : Nat, j < N → ∃ y : Nat, f j = some y ∧ ARF9 L P y k 0 c M ∧ P.ia y = (fun _ => 0)) (l0 : len ≤ M) (l1 : M ≤ 2000) (a : lo ≤ 0) (b : 0 ≤ hi) : TBK L P k c f N len lo hi := fun j j0 j1 => by
  obtain ⟨y, e, r, g⟩ := h j.toNat (by omega)
  exact ⟨y, e, TR9.arf r g l0 l1 a b⟩
/-- a table whose rows have changed, each within its range -/
theorem TBK.chxr {j : Nat} (h : TBK L P k c f n len lo hi) (w : CHX j L P L' P') (r : ∀ z : Nat, z ∈ L → P.kd z = k → P'.ia z = P.ia z ∨ ∀ i : Int, lo ≤ P'.ia z i ∧ P'.ia z i ≤ hi) : TBK L' P' k c f n len lo hi := fun j j0 j1 => by
  obtain ⟨y, e, ⟨a1, a2, a3⟩, a4, a5⟩ := h j j0 j1
  obtain ⟨b0, b1, b2, b3, b4, b5⟩ := w.1 y a1
  have an : P'.an y = P.an y := b2 1
  refine ⟨y, e, ⟨b0, (b2 0).trans a2, b4.trans a3⟩, by rw [an]; exact a4, ?_⟩
  rcases r y a1 a2 with q | q
  · rw [q]; exact a5
  · exact q
theorem TBK.chx {j : Nat} (h : TBK L P k c f n len lo hi) (w : CHX j L P L' P') (ne : k ≠ j) : TBK L' P' k c f n len lo hi := h.chxr w (fun z m q => Or.inl ((w.1 z m).2.2.2.2.2 (by rw [q]; exact ne)))
theorem TBK.ri {y : Nat} {g : Int → Int} (h : TBK L P k c f n len lo hi) (r : ∀ i : Int, lo ≤ g i ∧ g i ≤ hi) : TBK L (P.ri9 y g) k c f n len lo hi := h.chxr (CHX.ri9 rfl) (fun z _ q => by
  by_cases e : z = y
  · right; rw [e, ri9_at]; exact r
  · left; exact ri9_of P g e)
/-- the rows of a table are apart -/
def TDI (f : Nat → Option Nat) (n : Int) : Prop := ∀ i j : Int, 0 ≤ i → i < j → j < n → f i.toNat ≠ f j.toNat
def AGR (f g : Nat → Option Nat) (n : Int) : Prop := ∀ j : Int, 0 ≤ j → j < n → f j.toNat = g j.toNat
theorem AGR.none (f g : Nat → Option Nat) (h : n ≤ 0) : AGR f g n := fun j j0 j1 => by omega
theorem AGR.put {g : Nat → Option Nat} {i : Int} {y : Nat} (h : AGR f g i) (i0 : 0 ≤ i) (e : g i.toNat = some y) : AGR (va_up f i.toNat (some y)) g (i + 1) := fun j j0 j1 => by
  by_cases q : j = i
  · rw [q, va_up_self, e]
  · rw [va_up_ne _ _ (by omega)]; exact h j j0 (by omega)
theorem TBK.agr {g : Nat → Option Nat} (h : TBK L P k c g n len lo hi) (a : AGR f g n) : TBK L P k c f n len lo hi := fun j j0 j1 => by
  obtain ⟨y, e, r⟩ := h j j0 j1
  exact ⟨y, (a j j0 j1).trans e, r⟩
theorem TDI.agr {g : Nat → Option Nat} (h : TDI g n) (a : AGR f g n) : TDI f n := fun i j i0 ij jn => by
  rw [a i i0 (by omega), a j (by omega) jn]
  exact h i j i0 ij jn
theorem AGR.wk {g : Nat → Option Nat} {n2 : Int} (h : AGR f g n) (m : n2 ≤ n) : AGR f g n2 := fun j j0 j1 => h j j0 (by omega)
theorem TDI.wk {n2 : Int} (h : TDI f n) (m : n2 ≤ n) : TDI f n2 := fun i j i0 ij jn => h i j i0 ij (by omega)
theorem TDI.put {i : Int} {y : Nat} (h : TDI f i) (i0 : 0 ≤ i) (n9 : ∀ j : Int, 0 ≤ j → j < i → f j.toNat ≠ some y) : TDI (va_up f i.toNat (some y)) (i + 1) := fun a b a0 ab bn => by
  by_cases q : b = i
  · rw [q, va_up_self, va_up_ne _ _ (by omega)]; exact n9 a a0 (by omega)
  · rw [va_up_ne _ _ (by omega), va_up_ne _ _ (by omega)]; exact h a b a0 ab (by omega)
theorem TBK.notin {y : Nat} (h : TBK L P k c f n len lo hi) (m : y ∉ L) : ∀ j : Int, 0 ≤ j → j < n → f j.toNat ≠ some y := fun j j0 j1 e => m (h.at j0 j1 e).1.1
theorem TDI.nat {N : Nat} (h : ∀ i j : Nat, i < N → j < N → f i = f j → i = j) : TDI f N := fun i j i0 ij jn e => by
  have := h i.toNat j.toNat (by omega) (by omega) e
  omega
theorem pool_num {X : va_W} {v : Nat} (m : v ∈ L) (k : 40 ≤ P.kd v) (a : P.ac v = c) : ∃ (q M : Nat) (g : Nat → Int32), (X ++ va_pl L (pE P))[q]? = some (v, .inl (c, M, .inl g)) := by
  obtain ⟨q, h⟩ := va_pl_get (X := X) (f := pE P) m
  rw [pE_40 k, a] at h
  exact ⟨q, P.an v, _, h⟩
/-- how rows of tables by blocks grow: from a to b -/
def TGR (a b : Nat) (x z kc ks : Int) : Prop := (b = a ∧ kc = 0 ∧ ks = 0) ∨ (a < b ∧ (2 * a ≤ b ∨ b = 300) ∧ b ≤ 300 ∧ kc ≤ x ∧ ks ≤ z)
theorem zup_lh {a : Int → Int} {k v lo hi : Int} (h : ∀ i : Int, lo ≤ a i ∧ a i ≤ hi) (v0 : lo ≤ v) (v1 : v ≤ hi) : ∀ i : Int, lo ≤ zup a k v i ∧ zup a k v i ≤ hi := fun i => by
  unfold zup
  split
  · exact ⟨v0, v1⟩
  · exact h i
end SUB9
