/-- worlds as sets of cells -/
theorem pl_P {D : va_G} {cl : List vw_C} {ws : va_W} {H : Heap} : va_P D cl ws H ↔ ∀ q ∈ ws, va_at D cl q H := by
  constructor
  · intro h q hq
    obtain ⟨k, hk⟩ := List.getElem?_of_mem hq
    exact h k q hk
  · intro h k q hk
    exact h q (List.mem_of_getElem? hk)
theorem pl_D {A : Nat → Prop} {ws : va_W} : va_D A ws ↔ (ws.map (fun q => q.1)).Nodup ∧ ∀ q ∈ ws, A q.1 := by
  constructor
  · intro h
    refine ⟨?_, fun q hq => ?_⟩
    · refine List.pairwise_iff_getElem.mpr fun i j hi hj hij e => ?_
      rw [List.length_map] at hi hj
      rw [List.getElem_map, List.getElem_map] at e
      have := h.1 i j _ _ (List.getElem?_eq_getElem hi) (List.getElem?_eq_getElem hj) e
      omega
    · obtain ⟨k, hk⟩ := List.getElem?_of_mem hq
      exact h.2 k q hk
  · intro h
    refine ⟨fun i j p q hi hj e => ?_, fun k q hk => h.2 q (List.mem_of_getElem? hk)⟩
    have n := List.pairwise_iff_getElem.mp h.1
    obtain ⟨li, ei⟩ := List.getElem?_eq_some_iff.mp hi
    obtain ⟨lj, ej⟩ := List.getElem?_eq_some_iff.mp hj
    rcases Nat.lt_trichotomy i j with w | w | w
    · exact absurd (by rw [List.getElem_map, List.getElem_map, ei, ej]; exact e) (n i j (by rw [List.length_map]; exact li) (by rw [List.length_map]; exact lj) w)
    · exact w
    · exact absurd (by rw [List.getElem_map, List.getElem_map, ei, ej]; exact e.symm) (n j i (by rw [List.length_map]; exact lj) (by rw [List.length_map]; exact li) w)
theorem pl_Pp {D : va_G} {cl : List vw_C} {ws ws' : va_W} {H : Heap} (p : ws.Perm ws') (h : va_P D cl ws H) : va_P D cl ws' H := pl_P.mpr fun q hq => pl_P.mp h q (p.mem_iff.mpr hq)
theorem pl_Dp {A : Nat → Prop} {ws ws' : va_W} (p : ws.Perm ws') (h : va_D A ws) : va_D A ws' := by
  have d := pl_D.mp h
  exact pl_D.mpr ⟨((p.map (fun q => q.1)).nodup_iff).mp d.1, fun q hq => d.2 q (p.mem_iff.mpr hq)⟩
/-- a cell of the pool is taken out -/
theorem pl_out {X : va_W} {L : List Nat} {f : Nat → va_E} {x : Nat} (hx : x ∈ L) : (X ++ va_pl L f).Perm ((X ++ [(x, f x)]) ++ va_pl (L.erase x) f) := by
  rw [List.append_assoc]
  refine List.Perm.append_left X ?_
  show (va_pl L f).Perm ((x, f x) :: va_pl (L.erase x) f)
  exact (List.perm_cons_erase hx).map (fun a => (a, f a))
theorem pl_same {L : List Nat} {f : Nat → va_E} {x : Nat} {e : va_E} (h : x ∉ L) : va_pl L (va_up f x e) = va_pl L f := by
  unfold va_pl
  refine List.map_congr_left fun a ha => ?_
  have ne : a ≠ x := fun q => h (by rw [← q]; exact ha)
  rw [va_up_ne _ _ ne]
/-- .. and put back -/
theorem pl_in {A : Nat → Prop} {X : va_W} {L : List Nat} {f : Nat → va_E} {x : Nat} {e : va_E} (hD : va_D A ((X ++ [(x, e)]) ++ va_pl L f)) : ((X ++ [(x, e)]) ++ va_pl L f).Perm (X ++ va_pl (x :: L) (va_up f x e)) := by
  have n : x ∉ L := fun q => by
    have d := (pl_D.mp hD).1
    rw [List.map_append, List.map_append] at d
    have := (List.nodup_append.mp d).2.2 x (List.mem_append_right _ (by simp)) x (by unfold va_pl; simp [q])
    exact this rfl
  rw [List.append_assoc]
  refine List.Perm.append_left X ?_
  show ((x, e) :: va_pl L f).Perm (va_pl (x :: L) (va_up f x e))
  unfold va_pl
  rw [List.map_cons, va_up_self]
  have := pl_same (f := f) (e := e) n
  unfold va_pl at this
  rw [this]
/-- a new cell goes in front of the pool -/
theorem pl_new {X pl : va_W} {c : Nat × va_E} : ((X ++ pl) ++ [c]).Perm ((X ++ [c]) ++ pl) := by
  rw [List.append_assoc, List.append_assoc]
  exact List.Perm.append_left X List.perm_append_comm
/-- the order of explicit cells doesn't matter -/
theorem pl_mix {X Y pl : va_W} (p : X.Perm Y) : (X ++ pl).Perm (Y ++ pl) := p.append_right pl
