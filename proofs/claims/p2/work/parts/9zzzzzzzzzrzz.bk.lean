theorem vs_S.go {a v n : Nat} {f : Nat → Int32} {A B : Nat → Prop} {s U : State} {H : Heap} {locs : List Loc} (h : vs_S a v n f A s s.heap) (hS : va_S A s.heap H locs) (hF : ∀ q, B q → A q) (hU : U.heap = H) (hv : s.vm.Alike U.vm) : vs_S a v n f B U U.heap := by
  rw [hU]
  exact vs_S.narrow (vs_S.moved hv (vs_S.kept h hS.2.1)) hF
theorem va_Z.go {C n d : String} {v : Value} {A B : Nat → Prop} {s U : State} {H : Heap} {locs : List Loc} (h : va_Z C n d v A s s.heap) (hS : va_S A s.heap H locs) (hF : ∀ q, B q → A q) (hU : U.heap = H) (hv : s.vm.Alike U.vm) : va_Z C n d v B U U.heap := by
  rw [hU]
  exact va_Z.narrow (va_Z.moved hv (va_Z.kept h hS.2.1)) hF
theorem vx_Zq.go {C n d : String} {A B : Nat → Prop} {s U : State} {H : Heap} {locs : List Loc} (h : vx_Zq C n d A s s.heap) (hS : va_S A s.heap H locs) (hF : ∀ q, B q → A q) (hU : U.heap = H) (hv : s.vm.Alike U.vm) : vx_Zq C n d B U U.heap := by
  rw [hU]
  exact vx_Zq.narrow (vx_Zq.moved hv (vx_Zq.kept h hS.2.1)) hF
