section VXR
variable {p : Program} {l : Launch} {e : Env} {R : Room} {s : State} {m : MethodId} {args : Array Value} {below : List Frame} {meth : Method} {c : Code} {H : Heap} {locs : List Loc} {cells slots : Nat} {Q : State → Prop} {g : JFrame} {q : Addr}
/-- what a throw has cost is known .. -/
theorem vx_knowS (k : RM s.heap H cells slots → vx_W p l e R s m args below meth c H locs cells slots Q g q) : vx_W p l e R s m args below meth c H locs cells slots Q g q := by
  intro T hT X
  obtain ⟨_, h1, h2, _, h4, h5⟩ := X.same
  have r : RM s.heap T.heap cells slots := ⟨h1, h2, h4, fun a c h => by
    obtain ⟨c', d1, _, d3, _⟩ := h5 a c h
    exact ⟨c', d1, d3⟩⟩
  rw [hT] at r
  exact k r T hT X
/-- .. and can be counted anew -/
theorem vx_tightS {kc ks : Nat} (h : RM s.heap H kc ks) (k : vx_W p l e R s m args below meth c H locs kc ks Q g q) : vx_W p l e R s m args below meth c H locs cells slots Q g q := by
  intro T hT X
  refine k T hT { X with same := ?_ }
  obtain ⟨a, b, _, d, _, f⟩ := X.same
  refine ⟨a, b, ?_, d, ?_, f⟩
  · show T.heap.size ≤ _
    rw [hT]; exact h.2.1
  · show ((T.heap.toList.drop s.heap.size).map (fun x => x.slots.size)).sum ≤ _
    rw [hT]; exact h.2.2.1
end VXR
theorem txs_an {L : List Nat} {P : PO} {cB : ClassId} {x v n : Nat} {a : Int → Int} (hx : x ∉ v :: L) : ((P.mnum v 46 0 cB n a).mstr x v).an (((P.mnum v 46 0 cB n a).mstr x v).le x) = n := by
  have e2 : EXT9 (v :: L) (P.mnum v 46 0 cB n a) (x :: v :: L) ((P.mnum v 46 0 cB n a).mstr x v) := EXT9.one hx
  obtain ⟨⟨m1, m2, m3, m4, m5⟩, m6⟩ := mnum_arf L P v 46 0 cB n a
  have sv := e2 v List.mem_cons_self
  rw [mstr_le]
  exact (sv.2.2.1 1).trans m5
