section ROOM9
variable {p : Program} {l : Launch} {e : Env} {R : Room} {s : State} {m : MethodId} {args : Array Value} {below : List Frame} {meth : Method} {c : Code} {H : Heap} {locs : List Loc} {cells slots : Nat} {Q : State → Prop} {g : JFrame}
/-- how many slots have come since a heap was n cells long -/
def mes (n : Nat) (H : Heap) : Nat := ((H.toList.drop n).map (fun x => x.slots.size)).sum
/-- what has come so far is known to the walk -/
theorem W_know (k : H.size ≤ s.heap.size + cells → mes s.heap.size H ≤ slots → W p l e R s m args below meth c H locs cells slots Q g) : W p l e R s m args below meth c H locs cells slots Q g := by
  intro T hT X
  have h := X.same
  have h1 : T.heap.size ≤ s.heap.size + cells := h.2.2.1
  have h2 : ((T.heap.toList.drop s.heap.size).map (fun x => x.slots.size)).sum ≤ slots := h.2.2.2.2.1
  rw [hT] at h1 h2
  exact k h1 h2 T hT X
/-- .. and can be counted anew: only what has really come counts -/
theorem W_tight {cells' slots' : Nat} (h1 : H.size ≤ s.heap.size + cells') (h2 : mes s.heap.size H ≤ slots') (k : W p l e R s m args below meth c H locs cells' slots' Q g) : W p l e R s m args below meth c H locs cells slots Q g := by
  intro T hT X
  refine k T hT { X with same := ?_ }
  obtain ⟨a, b, _, d, _, f⟩ := X.same
  refine ⟨a, b, ?_, d, ?_, f⟩
  · show T.heap.size ≤ _
    rw [hT]; exact h1
  · show ((T.heap.toList.drop s.heap.size).map (fun x => x.slots.size)).sum ≤ _
    rw [hT]; exact h2
end ROOM9
/-- what came in two steps -/
theorem mes_le {n k : Nat} {H : Heap} (h : n ≤ k) : mes k H ≤ mes n H := by
  unfold mes
  have e : H.toList.drop k = (H.toList.drop n).drop (k - n) := by rw [List.drop_drop]; congr 1; omega
  rw [e]
  generalize H.toList.drop n = L
  induction L generalizing n k with
  | nil => simp
  | cons x L ih =>
    cases hd : k - n with
    | zero => simp
    | succ d =>
      have := ih (n := 0) (k := d) (Nat.zero_le _) (by simp)
      simp only [Nat.sub_zero] at this
      simp only [List.drop_succ_cons, List.map_cons, List.sum_cons]
      omega
