section VXR
variable {p : Program} {l : Launch} {e : Env} {R : Room} {s : State} {m : MethodId} {args : Array Value} {below : List Frame} {meth : Method} {c : Code} {H : Heap} {locs : List Loc} {cells slots : Nat} {Q : State → Prop} {g : JFrame} {q : Addr}
/-- what a throw has cost is known .. -/
theorem vx_knowS (k : RM s.heap H cells slots → vx_W p l e R s m args below meth c H locs cells slots Q g q) : vx_W p l e R s m args below meth c H locs cells slots Q g q := by
  intro T hT X
  obtain ⟨_, h1, h2, _, h4, h5⟩ := X.same
  have r : RM s.heap T.heap cells slots := ⟨h1, h2, h4, fun a c h => by
    obtain ⟨c', d1, _, d3, _⟩ := h5 a c h
    exact ⟨c', d1, d3⟩⟩
  rw [hT] at r
  exact k r T hT X
/-- .. and can be counted anew -/
theorem vx_tightS {kc ks : Nat} (h : RM s.heap H kc ks) (k : vx_W p l e R s m args below meth c H locs kc ks Q g q) : vx_W p l e R s m args below meth c H locs cells slots Q g q := by
  intro T hT X
  refine k T hT { X with same := ?_ }
  obtain ⟨a, b, _, d, _, f⟩ := X.same
  refine ⟨a, b, ?_, d, ?_, f⟩
  · show T.heap.size ≤ _
    rw [hT]; exact h.2.1
  · show ((T.heap.toList.drop s.heap.size).map (fun x => x.slots.size)).sum ≤ _
    rw [hT]; exact h.2.2.1
end VXR
theorem txs_an {L : List Nat} {P : PO} {cB : ClassId} {x v n : Nat} {a : Int → Int} (hx : x ∉ v :: L) : ((P.mnum v 46 0 cB n a).mstr x v).an (((P.mnum v 46 0 cB n a).mstr x v).le x) = n := by
  have e2 : EXT9 (v :: L) (P.mnum v 46 0 cB n a) (x :: v :: L) ((P.mnum v 46 0 cB n a).mstr x v) := EXT9.one hx
  obtain ⟨⟨m1, m2, m3, m4, m5⟩, m6⟩ := mnum_arf L P v 46 0 cB n a
  have sv := e2 v List.mem_cons_self
  rw [mstr_le]
  exact (sv.2.2.1 1).trans m5
/-- registers and blocks that were read have their ranges -/
def KV9 (k v : Int) : Prop := (k = 2 → 0 ≤ v ∧ v ≤ 199) ∧ (k = 3 → 0 ≤ v ∧ v ≤ 59)
theorem KV9.reg {k v : Int} (h : KV9 k v) (e : k = 2) : 0 ≤ v ∧ v ≤ 199 := h.1 e
theorem KV9.blk {k v : Int} (h : KV9 k v) (e : k = 3) : 0 ≤ v ∧ v ≤ 59 := h.2 e
/-- a word was read behind the place z: the end, or one more letter at least -/
def KDN (k a v n z : Int) : Prop := ((k = 0 ∧ a = n) ∨ (1 ≤ k ∧ z + 1 ≤ a)) ∧ KV9 k v
theorem KDN.of {k a v n z : Int} (p : (k = 0 ∧ a = n) ∨ (1 ≤ k ∧ z + 1 ≤ a)) (q : k = 2 → 0 ≤ v ∧ v ≤ 199) (r : k = 3 → 0 ≤ v ∧ v ≤ 59) : KDN k a v n z := ⟨p, q, r⟩
theorem KDN.go {k a v n z : Int} (h : KDN k a v n z) (g : 1 ≤ k) : z + 1 ≤ a := by have := h.1; omega
theorem KDN.mono {k a v n z w : Int} (h : KDN k a v n z) (l : w ≤ z) : KDN k a v n w := ⟨by have := h.1; omega, h.2⟩
theorem KDN.ms {k a v n z k0 : Int} (h : KDN k a v n z) (g : 1 ≤ k0) (r : k ≤ 6) (s : z ≤ n) : 7 * (n - a) + k < 7 * (n - z) + k0 := by have := h.1; omega
/-- a symbol's text has at most two letters -/
def TXK9 (k : Int) (P : PO) (e x : Nat) : Prop := k = 5 → x = e ∨ (P.an (P.le x) : Int) ≤ 2
/-- a register's number is one -/
def OPQ (r x : Int) : Prop := r = 0 ∨ (0 ≤ x ∧ x ≤ 1001)
theorem OPQ.ua {o r x : Int} (h : OPQ r x) : rUsA o r = 0 ∨ (0 ≤ x ∧ x ≤ 1001) := rUA9 (by have : r = 0 ∨ (0 ≤ x ∧ x ≤ 1001) := h; omega)
theorem OPQ.ub {o r x : Int} (h : OPQ r x) : rUsB o r = 0 ∨ (0 ≤ x ∧ x ≤ 1001) := rUB9 (by have : r = 0 ∨ (0 ≤ x ∧ x ≤ 1001) := h; omega)
