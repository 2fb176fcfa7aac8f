theorem allAtoms_mk9 {args : Array Value} {s : State} : ∀ ws : List Cond, (∀ c ∈ ws, c.before args s = true) → (allAtoms ws).before args s = true
  | [], _ => rfl
  | a :: l, h => by
    show (Cond.and a (allAtoms l)).before args s = true
    rw [Cond.before_and, Bool.and_eq_true]
    exact ⟨h a List.mem_cons_self, allAtoms_mk9 l (fun c m => h c (List.mem_cons_of_mem _ m))⟩
/-- a contract whose words are among these -/
theorem Met.words9 {l : Launch} {y : MethodName} {ws ws' : List Cond} {rm : Room} {Pc : Array Value → State → Prop} {Qc : Array Value → State → Outcome → State → Prop} {mc ms : Nat} {free : Addr → Prop} (h : Met l y ws rm Pc Qc mc ms free) (sub : ∀ w ∈ ws, w ∈ ws') : Met l y ws' rm Pc Qc mc ms free := by
  unfold Met at h ⊢
  exact Jvm.Free.MetFree.respec h (fun a s q => allAtoms_mk9 _ (fun c m => atoms_spec (ws := ws') q c (sub c m))) (Nat.le_refl _) (Nat.le_refl _) (Nat.le_refl _) (Nat.le_refl _)
theorem Met.pre9 {l : Launch} {y : MethodName} {ws : List Cond} {rm : Room} {Pc Pc' : Array Value → State → Prop} {Qc : Array Value → State → Outcome → State → Prop} {mc ms : Nat} {free : Addr → Prop} (h : Met l y ws rm Pc Qc mc ms free) (i : ∀ (a : Array Value) (s : State), Pc' a s → Pc a s) : Met l y ws rm Pc' Qc mc ms free := by
  unfold Met at h ⊢
  exact fun p e a1 a2 a3 s m args below b1 b2 b3 b4 => h p e a1 a2 a3 s m args below b1 b2 (i _ _ b3) b4
