def RT1 : String := "java/lang/RuntimeException"
abbrev cT1_init : ByteArray := prog_36_method_5_code
def yT1_init : MethodName := ⟨RT1, "<init>", "(Ljava/lang/String;Ljava/lang/Throwable;ZZ)V"⟩
def RT2 : String := "java/lang/Exception"
abbrev cT2_init : ByteArray := prog_28_method_5_code
def yT2_init : MethodName := ⟨RT2, "<init>", "(Ljava/lang/String;Ljava/lang/Throwable;ZZ)V"⟩
def RT3 : String := "java/lang/Throwable"
abbrev cT3_init : ByteArray := prog_43_method_5_code
def yT3_init : MethodName := ⟨RT3, "<init>", "(Ljava/lang/String;Ljava/lang/Throwable;ZZ)V"⟩
theorem dT3_init_0 : decode cT3_init 0 = .ok (.aload_n 0, 1) := by decide +kernel
theorem dT3_init_1 : decode cT3_init 1 = .ok (.invokespecial 1, 3) := by decide +kernel
theorem dT3_init_4 : decode cT3_init 4 = .ok (.aload_n 0, 1) := by decide +kernel
theorem dT3_init_5 : decode cT3_init 5 = .ok (.aload_n 0, 1) := by decide +kernel
theorem dT3_init_6 : decode cT3_init 6 = .ok (.putfield 7, 3) := by decide +kernel
theorem dT3_init_9 : decode cT3_init 9 = .ok (.aload_n 0, 1) := by decide +kernel
theorem dT3_init_10 : decode cT3_init 10 = .ok (.getstatic 13, 3) := by decide +kernel
theorem dT3_init_13 : decode cT3_init 13 = .ok (.putfield 17, 3) := by decide +kernel
theorem dT3_init_16 : decode cT3_init 16 = .ok (.aload_n 0, 1) := by decide +kernel
theorem dT3_init_17 : decode cT3_init 17 = .ok (.getstatic 20, 3) := by decide +kernel
theorem dT3_init_20 : decode cT3_init 20 = .ok (.putfield 24, 3) := by decide +kernel
theorem dT3_init_23 : decode cT3_init 23 = .ok (.iload 4, 2) := by decide +kernel
theorem dT3_init_25 : decode cT3_init 25 = .ok (.ifCond .eq 11, 3) := by decide +kernel
theorem dT3_init_36 : decode cT3_init 36 = .ok (.aload_n 0, 1) := by decide +kernel
theorem dT3_init_37 : decode cT3_init 37 = .ok (.aconst_null, 1) := by decide +kernel
theorem dT3_init_38 : decode cT3_init 38 = .ok (.putfield 17, 3) := by decide +kernel
theorem dT3_init_41 : decode cT3_init 41 = .ok (.aload_n 0, 1) := by decide +kernel
theorem dT3_init_42 : decode cT3_init 42 = .ok (.aload_n 1, 1) := by decide +kernel
theorem dT3_init_43 : decode cT3_init 43 = .ok (.putfield 31, 3) := by decide +kernel
theorem dT3_init_46 : decode cT3_init 46 = .ok (.aload_n 0, 1) := by decide +kernel
theorem dT3_init_47 : decode cT3_init 47 = .ok (.aload_n 2, 1) := by decide +kernel
theorem dT3_init_48 : decode cT3_init 48 = .ok (.putfield 7, 3) := by decide +kernel
theorem dT3_init_51 : decode cT3_init 51 = .ok (.iload_n 3, 1) := by decide +kernel
theorem dT3_init_52 : decode cT3_init 52 = .ok (.ifCond .ne 8, 3) := by decide +kernel
theorem dT3_init_55 : decode cT3_init 55 = .ok (.aload_n 0, 1) := by decide +kernel
theorem dT3_init_56 : decode cT3_init 56 = .ok (.aconst_null, 1) := by decide +kernel
theorem dT3_init_57 : decode cT3_init 57 = .ok (.putfield 24, 3) := by decide +kernel
theorem dT3_init_60 : decode cT3_init 60 = .ok (.return_, 1) := by decide +kernel
def o_T3_init : List Cond := [.methodLink RT3 1 objectInit, .instanceMethod objectInit, .code objectInit ⟨#[0xb1]⟩ 1 none, .fieldLink RT3 7 "java/lang/Throwable" "cause" "Ljava/lang/Throwable;", .fieldLink RT3 13 "java/lang/Throwable" "UNASSIGNED_STACK" "[Ljava/lang/StackTraceElement;", .fieldLink RT3 17 "java/lang/Throwable" "stackTrace" "[Ljava/lang/StackTraceElement;", .fieldLink RT3 20 "java/lang/Throwable" "SUPPRESSED_SENTINEL" "Ljava/util/List;", .fieldLink RT3 24 "java/lang/Throwable" "suppressedExceptions" "Ljava/util/List;", .fieldLink RT3 31 "java/lang/Throwable" "detailMessage" "Ljava/lang/String;"]
def v_T3_init : List Cond := .code yT3_init cT3_init 5 none :: (o_T3_init ++ (wsX180 ++ []))
theorem mow_T3_init : ∀ w ∈ o_T3_init, w ∈ v_T3_init := fun _ h => List.mem_cons_of_mem _ (List.mem_append_left _ h)
theorem mem_T3_init_0 : ∀ w ∈ wsX180, w ∈ v_T3_init := fun _ h => List.mem_cons_of_mem _ (List.mem_append_right _ (List.mem_append_left _ h))
set_option maxRecDepth 20000 in
theorem gw_T3_init : v_T3_init.all goodWord = true := by decide +kernel
set_option maxHeartbeats 4000000 in
set_option maxRecDepth 100000 in
theorem c_T3_init (l : Launch) (dC : Nat → ClassId) (dI : Nat → Nat → Nat) (h0 : Nat) (sz : Nat) : Met l yT3_init v_T3_init ({ frames := 1, cells := 0, slots := 0, locals := 12 }) (va_Pc [.ref h0, .null, .null, .int 0, .int 0] (fun U => U.heap.size = sz ∧ va_P (dC, dI) vwQ [(h0, .inr (15, [.null, .null, .null, .null, .null, .int 0, .int 0]))] U.heap ∧ va_K (dC, dI) vwQ [] U ∧ va_D (fun _ => True) [(h0, .inr (15, [.null, .null, .null, .null, .null, .int 0, .int 0]))] ∧ vx_Zq Bundle.tN "UNASSIGNED_STACK" Bundle.steD (va_A [(h0, .inr (15, [.null, .null, .null, .null, .null, .int 0, .int 0]))] sz) U U.heap ∧ vx_Zq Bundle.tN "SUPPRESSED_SENTINEL" Bundle.listD (va_A [(h0, .inr (15, [.null, .null, .null, .null, .null, .int 0, .int 0]))] sz) U U.heap)) (va_Qv (fun _ : Unit => True) (fun (_ : Unit) (t : State) => va_P (dC, dI) vwQ [(h0, .inr (15, [.null, .null, .null, .null, .null, .int 0, .int 0]))] t.heap ∧ va_K (dC, dI) vwQ [] t ∧ va_D (va_A [(h0, .inr (15, [.null, .null, .null, .null, .null, .int 0, .int 0]))] sz) [(h0, .inr (15, [.null, .null, .null, .null, .null, .int 0, .int 0]))]) (va_A [(h0, .inr (15, [.null, .null, .null, .null, .null, .int 0, .int 0]))] sz)) 0 0 (va_A [(h0, .inr (15, [.null, .null, .null, .null, .null, .int 0, .int 0]))] sz) := by
  refine Met.ofW (cc := cT3_init) (maxL := 5) (ret := none) (by decide) rfl ?_
  intro p e s m args below meth c s₁ B hml hv
  obtain ⟨rfl, hsz, hP, hK, hD0, hp0, hp1⟩ := hv
  have hx := B.exec
  have hb := B.bytes
  have hr := B.returns
  have hts := atoms_spec (ws := v_T3_init) B.pre
  have hown : s.vm.findClass RT3 = some m.cls := findClass_of_methodNamed B.named
  have hlocks := B.notSynchronized
  have ow : ∀ {k : Nat} {w : Cond}, o_T3_init[k]? = some w → w.before ([.ref h0, .null, .null, .int 0, .int 0] : List Value).toArray s = true := fun h => hts _ (mow_T3_init _ (List.mem_of_getElem? h))
  have hin : meth.name = "<init>" := (name_of_methodNamed B.named B.method).1
  subst hsz
  have hD := hD0.self (sz := s.heap.size)
  generalize hAe : va_A [(h0, .inr (15, [.null, .null, .null, .null, .null, .int 0, .int 0]))] s.heap.size = A at hD hp0 hp1 ⊢
  have hA : ∀ q : Nat, s.heap.size ≤ q → A q := fun q h => by rw [← hAe]; exact Or.inr h
  have hS : va_S A s.heap s.heap [] := va_S.rf
  have hP : va_P (dC, dI) vwQ [(h0, .inr (15, [.null, .null, .null, .null, .null, .int 0, .int 0]))] s.heap := hP
  have hl := lv_entry ([.ref h0, .null, .null, .int 0, .int 0]) (n := 5) (Nat.le_of_ble_eq_true rfl)
  rw [lg_entry_eq]
  generalize (lg_sl ([.ref h0, .null, .null, .int 0, .int 0]) ++ List.replicate (5 - (lg_sl ([.ref h0, .null, .null, .int 0, .int 0])).length) Slot.unset).toArray = ls at hl ⊢
  have hl : lv_has ls 5 [(0, .ref h0), (1, .null), (2, .null), (3, .int 0), (4, .int 0)] := hl
  obtain ⟨H, hH⟩ : ∃ H, H = s.heap := ⟨_, rfl⟩
  rw [← hH] at hP
  have hS : va_S A s.heap H [] := by rw [hH]; exact hS
  rw [← hH]
  refine zW_cap (fun Q hQ => ?_)
  refine lv_aload_n hx hb dT3_init_0 rfl (lv_at hl 0 rfl) ?_
  refine W.objInit hx hb hown (ow (k := 0) rfl) (ow (k := 1) rfl) (ow (k := 2) rfl) rfl (by rw [hml]; exact hl.1) rfl dT3_init_1 (Nat.le_of_ble_eq_true rfl) (Nat.le_of_ble_eq_true rfl) ?_
  refine W.eq (g2 := F0 m 4 ls []) rfl ?_
  refine lv_aload_n hx hb dT3_init_4 rfl (lv_at hl 0 rfl) ?_
  refine lv_aload_n hx hb dT3_init_5 rfl (lv_at hl 0 rfl) ?_
  refine va_put (D := (dC, dI)) (ci := 15) (v := .ref h0) (ty := .object "java/lang/Throwable") (C := RX18) (T := TX18) (N := 7) hx hb hts mem_T3_init_0 tyX18 tyX18_ok nmX18 hown hK hP hD hS 0 rfl rfl 0 (by decide) (ow (k := 3) rfl) (fun _ h9 => h9) rfl (by decide +kernel) rfl rfl (Nat.le_of_ble_eq_true rfl) dT3_init_6 (fun H locs hP hD hS => ?_)
  have hP : va_P (dC, dI) vwQ [(h0, .inr (15, [.ref h0, .null, .null, .null, .null, .int 0, .int 0]))] H := hP
  have hD : va_D A [(h0, .inr (15, [.ref h0, .null, .null, .null, .null, .int 0, .int 0]))] := hD
  refine lv_aload_n hx hb dT3_init_9 rfl (lv_at hl 0 rfl) ?_
  rcases hp0.1 with hz_2 | ⟨tz_1, hz_2⟩
  · refine va_gets (v := .null) hx hb hz_2 hS hown (ow (k := 4) rfl) (fun _ h9 => h9) dT3_init_10 ?_
    refine va_put (D := (dC, dI)) (ci := 15) (v := .null) (ty := .array (.object "java/lang/StackTraceElement")) (C := RX18) (T := TX18) (N := 7) hx hb hts mem_T3_init_0 tyX18 tyX18_ok nmX18 hown hK hP hD hS 0 rfl rfl 1 (by decide) (ow (k := 5) rfl) (fun _ h9 => h9) rfl (by decide +kernel) rfl rfl (Nat.le_of_ble_eq_true rfl) dT3_init_13 (fun H locs hP hD hS => ?_)
    have hP : va_P (dC, dI) vwQ [(h0, .inr (15, [.ref h0, .null, .null, .null, .null, .int 0, .int 0]))] H := hP
    have hD : va_D A [(h0, .inr (15, [.ref h0, .null, .null, .null, .null, .int 0, .int 0]))] := hD
    refine lv_aload_n hx hb dT3_init_16 rfl (lv_at hl 0 rfl) ?_
    rcases hp1.1 with hz_4 | ⟨tz_3, hz_4⟩
    · refine va_gets (v := .null) hx hb hz_4 hS hown (ow (k := 6) rfl) (fun _ h9 => h9) dT3_init_17 ?_
      refine va_put (D := (dC, dI)) (ci := 15) (v := .null) (ty := .object "java/util/List") (C := RX18) (T := TX18) (N := 7) hx hb hts mem_T3_init_0 tyX18 tyX18_ok nmX18 hown hK hP hD hS 0 rfl rfl 2 (by decide) (ow (k := 7) rfl) (fun _ h9 => h9) rfl (by decide +kernel) rfl rfl (Nat.le_of_ble_eq_true rfl) dT3_init_20 (fun H locs hP hD hS => ?_)
      have hP : va_P (dC, dI) vwQ [(h0, .inr (15, [.ref h0, .null, .null, .null, .null, .int 0, .int 0]))] H := hP
      have hD : va_D A [(h0, .inr (15, [.ref h0, .null, .null, .null, .null, .int 0, .int 0]))] := hD
      refine lv_iload hx hb dT3_init_23 (lv_at hl 4 rfl) ?_
      refine lv_if_eq (tgt := 36) hx hb dT3_init_25 (by decide) (fun _ => ?_) (fun h9 => absurd h9 (by decide))
      refine lv_aload_n hx hb dT3_init_36 rfl (lv_at hl 0 rfl) ?_
      refine lv_null hx hb dT3_init_37 ?_
      refine va_put (D := (dC, dI)) (ci := 15) (v := .null) (ty := .array (.object "java/lang/StackTraceElement")) (C := RX18) (T := TX18) (N := 7) hx hb hts mem_T3_init_0 tyX18 tyX18_ok nmX18 hown hK hP hD hS 0 rfl rfl 1 (by decide) (ow (k := 5) rfl) (fun _ h9 => h9) rfl (by decide +kernel) rfl rfl (Nat.le_of_ble_eq_true rfl) dT3_init_38 (fun H locs hP hD hS => ?_)
      have hP : va_P (dC, dI) vwQ [(h0, .inr (15, [.ref h0, .null, .null, .null, .null, .int 0, .int 0]))] H := hP
      have hD : va_D A [(h0, .inr (15, [.ref h0, .null, .null, .null, .null, .int 0, .int 0]))] := hD
      refine lv_aload_n hx hb dT3_init_41 rfl (lv_at hl 0 rfl) ?_
      refine lv_aload_nN hx hb dT3_init_42 rfl (lv_at hl 1 rfl) ?_
      refine va_put (D := (dC, dI)) (ci := 15) (v := .null) (ty := .object "java/lang/String") (C := RX18) (T := TX18) (N := 7) hx hb hts mem_T3_init_0 tyX18 tyX18_ok nmX18 hown hK hP hD hS 0 rfl rfl 3 (by decide) (ow (k := 8) rfl) (fun _ h9 => h9) rfl (by decide +kernel) rfl rfl (Nat.le_of_ble_eq_true rfl) dT3_init_43 (fun H locs hP hD hS => ?_)
      have hP : va_P (dC, dI) vwQ [(h0, .inr (15, [.ref h0, .null, .null, .null, .null, .int 0, .int 0]))] H := hP
      have hD : va_D A [(h0, .inr (15, [.ref h0, .null, .null, .null, .null, .int 0, .int 0]))] := hD
      refine lv_aload_n hx hb dT3_init_46 rfl (lv_at hl 0 rfl) ?_
      refine lv_aload_nN hx hb dT3_init_47 rfl (lv_at hl 2 rfl) ?_
      refine va_put (D := (dC, dI)) (ci := 15) (v := .null) (ty := .object "java/lang/Throwable") (C := RX18) (T := TX18) (N := 7) hx hb hts mem_T3_init_0 tyX18 tyX18_ok nmX18 hown hK hP hD hS 0 rfl rfl 0 (by decide) (ow (k := 3) rfl) (fun _ h9 => h9) rfl (by decide +kernel) rfl rfl (Nat.le_of_ble_eq_true rfl) dT3_init_48 (fun H locs hP hD hS => ?_)
      have hP : va_P (dC, dI) vwQ [(h0, .inr (15, [.null, .null, .null, .null, .null, .int 0, .int 0]))] H := hP
      have hD : va_D A [(h0, .inr (15, [.null, .null, .null, .null, .null, .int 0, .int 0]))] := hD
      refine lv_iload_n hx hb dT3_init_51 rfl (lv_at hl 3 rfl) ?_
      refine lv_if_ne (tgt := 60) hx hb dT3_init_52 (by decide) (fun h9 => absurd h9 (by decide)) (fun _ => ?_)
      refine lv_aload_n hx hb dT3_init_55 rfl (lv_at hl 0 rfl) ?_
      refine lv_null hx hb dT3_init_56 ?_
      refine va_put (D := (dC, dI)) (ci := 15) (v := .null) (ty := .object "java/util/List") (C := RX18) (T := TX18) (N := 7) hx hb hts mem_T3_init_0 tyX18 tyX18_ok nmX18 hown hK hP hD hS 0 rfl rfl 2 (by decide) (ow (k := 7) rfl) (fun _ h9 => h9) rfl (by decide +kernel) rfl rfl (Nat.le_of_ble_eq_true rfl) dT3_init_57 (fun H locs hP hD hS => ?_)
      have hP : va_P (dC, dI) vwQ [(h0, .inr (15, [.null, .null, .null, .null, .null, .int 0, .int 0]))] H := hP
      have hD : va_D A [(h0, .inr (15, [.null, .null, .null, .null, .null, .int 0, .int 0]))] := hD
      subst hQ
      refine W.widen (k := 0) (n := 0) (Nat.le_of_ble_eq_true rfl) (Nat.le_of_ble_eq_true rfl) ?_
      exact W.vret hx hb hr (fun t ht hW => ⟨⟨(), rfl, trivial, by rw [ht]; exact hP, va_K.moved hW.alike hK, hD⟩, hS.F ht⟩) hS.2.2 dT3_init_60
    · refine va_gets (v := .ref tz_3) hx hb hz_4 hS hown (ow (k := 6) rfl) (fun _ h9 => h9) dT3_init_17 ?_
      refine va_put (D := (dC, dI)) (ci := 15) (v := .ref tz_3) (ty := .object "java/util/List") (C := RX18) (T := TX18) (N := 7) hx hb hts mem_T3_init_0 tyX18 tyX18_ok nmX18 hown hK hP hD hS 0 rfl rfl 2 (by decide) (ow (k := 7) rfl) (fun _ h9 => h9) rfl (by decide +kernel) rfl rfl (Nat.le_of_ble_eq_true rfl) dT3_init_20 (fun H locs hP hD hS => ?_)
      have hP : va_P (dC, dI) vwQ [(h0, .inr (15, [.ref h0, .null, .ref tz_3, .null, .null, .int 0, .int 0]))] H := hP
      have hD : va_D A [(h0, .inr (15, [.ref h0, .null, .ref tz_3, .null, .null, .int 0, .int 0]))] := hD
      refine lv_iload hx hb dT3_init_23 (lv_at hl 4 rfl) ?_
      refine lv_if_eq (tgt := 36) hx hb dT3_init_25 (by decide) (fun _ => ?_) (fun h9 => absurd h9 (by decide))
      refine lv_aload_n hx hb dT3_init_36 rfl (lv_at hl 0 rfl) ?_
      refine lv_null hx hb dT3_init_37 ?_
      refine va_put (D := (dC, dI)) (ci := 15) (v := .null) (ty := .array (.object "java/lang/StackTraceElement")) (C := RX18) (T := TX18) (N := 7) hx hb hts mem_T3_init_0 tyX18 tyX18_ok nmX18 hown hK hP hD hS 0 rfl rfl 1 (by decide) (ow (k := 5) rfl) (fun _ h9 => h9) rfl (by decide +kernel) rfl rfl (Nat.le_of_ble_eq_true rfl) dT3_init_38 (fun H locs hP hD hS => ?_)
      have hP : va_P (dC, dI) vwQ [(h0, .inr (15, [.ref h0, .null, .ref tz_3, .null, .null, .int 0, .int 0]))] H := hP
      have hD : va_D A [(h0, .inr (15, [.ref h0, .null, .ref tz_3, .null, .null, .int 0, .int 0]))] := hD
      refine lv_aload_n hx hb dT3_init_41 rfl (lv_at hl 0 rfl) ?_
      refine lv_aload_nN hx hb dT3_init_42 rfl (lv_at hl 1 rfl) ?_
      refine va_put (D := (dC, dI)) (ci := 15) (v := .null) (ty := .object "java/lang/String") (C := RX18) (T := TX18) (N := 7) hx hb hts mem_T3_init_0 tyX18 tyX18_ok nmX18 hown hK hP hD hS 0 rfl rfl 3 (by decide) (ow (k := 8) rfl) (fun _ h9 => h9) rfl (by decide +kernel) rfl rfl (Nat.le_of_ble_eq_true rfl) dT3_init_43 (fun H locs hP hD hS => ?_)
      have hP : va_P (dC, dI) vwQ [(h0, .inr (15, [.ref h0, .null, .ref tz_3, .null, .null, .int 0, .int 0]))] H := hP
      have hD : va_D A [(h0, .inr (15, [.ref h0, .null, .ref tz_3, .null, .null, .int 0, .int 0]))] := hD
      refine lv_aload_n hx hb dT3_init_46 rfl (lv_at hl 0 rfl) ?_
      refine lv_aload_nN hx hb dT3_init_47 rfl (lv_at hl 2 rfl) ?_
      refine va_put (D := (dC, dI)) (ci := 15) (v := .null) (ty := .object "java/lang/Throwable") (C := RX18) (T := TX18) (N := 7) hx hb hts mem_T3_init_0 tyX18 tyX18_ok nmX18 hown hK hP hD hS 0 rfl rfl 0 (by decide) (ow (k := 3) rfl) (fun _ h9 => h9) rfl (by decide +kernel) rfl rfl (Nat.le_of_ble_eq_true rfl) dT3_init_48 (fun H locs hP hD hS => ?_)
      have hP : va_P (dC, dI) vwQ [(h0, .inr (15, [.null, .null, .ref tz_3, .null, .null, .int 0, .int 0]))] H := hP
      have hD : va_D A [(h0, .inr (15, [.null, .null, .ref tz_3, .null, .null, .int 0, .int 0]))] := hD
      refine lv_iload_n hx hb dT3_init_51 rfl (lv_at hl 3 rfl) ?_
      refine lv_if_ne (tgt := 60) hx hb dT3_init_52 (by decide) (fun h9 => absurd h9 (by decide)) (fun _ => ?_)
      refine lv_aload_n hx hb dT3_init_55 rfl (lv_at hl 0 rfl) ?_
      refine lv_null hx hb dT3_init_56 ?_
      refine va_put (D := (dC, dI)) (ci := 15) (v := .null) (ty := .object "java/util/List") (C := RX18) (T := TX18) (N := 7) hx hb hts mem_T3_init_0 tyX18 tyX18_ok nmX18 hown hK hP hD hS 0 rfl rfl 2 (by decide) (ow (k := 7) rfl) (fun _ h9 => h9) rfl (by decide +kernel) rfl rfl (Nat.le_of_ble_eq_true rfl) dT3_init_57 (fun H locs hP hD hS => ?_)
      have hP : va_P (dC, dI) vwQ [(h0, .inr (15, [.null, .null, .null, .null, .null, .int 0, .int 0]))] H := hP
      have hD : va_D A [(h0, .inr (15, [.null, .null, .null, .null, .null, .int 0, .int 0]))] := hD
      subst hQ
      refine W.widen (k := 0) (n := 0) (Nat.le_of_ble_eq_true rfl) (Nat.le_of_ble_eq_true rfl) ?_
      exact W.vret hx hb hr (fun t ht hW => ⟨⟨(), rfl, trivial, by rw [ht]; exact hP, va_K.moved hW.alike hK, hD⟩, hS.F ht⟩) hS.2.2 dT3_init_60
  · refine va_gets (v := .ref tz_1) hx hb hz_2 hS hown (ow (k := 4) rfl) (fun _ h9 => h9) dT3_init_10 ?_
    refine va_put (D := (dC, dI)) (ci := 15) (v := .ref tz_1) (ty := .array (.object "java/lang/StackTraceElement")) (C := RX18) (T := TX18) (N := 7) hx hb hts mem_T3_init_0 tyX18 tyX18_ok nmX18 hown hK hP hD hS 0 rfl rfl 1 (by decide) (ow (k := 5) rfl) (fun _ h9 => h9) rfl (by decide +kernel) rfl rfl (Nat.le_of_ble_eq_true rfl) dT3_init_13 (fun H locs hP hD hS => ?_)
    have hP : va_P (dC, dI) vwQ [(h0, .inr (15, [.ref h0, .ref tz_1, .null, .null, .null, .int 0, .int 0]))] H := hP
    have hD : va_D A [(h0, .inr (15, [.ref h0, .ref tz_1, .null, .null, .null, .int 0, .int 0]))] := hD
    refine lv_aload_n hx hb dT3_init_16 rfl (lv_at hl 0 rfl) ?_
    rcases hp1.1 with hz_6 | ⟨tz_5, hz_6⟩
    · refine va_gets (v := .null) hx hb hz_6 hS hown (ow (k := 6) rfl) (fun _ h9 => h9) dT3_init_17 ?_
      refine va_put (D := (dC, dI)) (ci := 15) (v := .null) (ty := .object "java/util/List") (C := RX18) (T := TX18) (N := 7) hx hb hts mem_T3_init_0 tyX18 tyX18_ok nmX18 hown hK hP hD hS 0 rfl rfl 2 (by decide) (ow (k := 7) rfl) (fun _ h9 => h9) rfl (by decide +kernel) rfl rfl (Nat.le_of_ble_eq_true rfl) dT3_init_20 (fun H locs hP hD hS => ?_)
      have hP : va_P (dC, dI) vwQ [(h0, .inr (15, [.ref h0, .ref tz_1, .null, .null, .null, .int 0, .int 0]))] H := hP
      have hD : va_D A [(h0, .inr (15, [.ref h0, .ref tz_1, .null, .null, .null, .int 0, .int 0]))] := hD
      refine lv_iload hx hb dT3_init_23 (lv_at hl 4 rfl) ?_
      refine lv_if_eq (tgt := 36) hx hb dT3_init_25 (by decide) (fun _ => ?_) (fun h9 => absurd h9 (by decide))
      refine lv_aload_n hx hb dT3_init_36 rfl (lv_at hl 0 rfl) ?_
      refine lv_null hx hb dT3_init_37 ?_
      refine va_put (D := (dC, dI)) (ci := 15) (v := .null) (ty := .array (.object "java/lang/StackTraceElement")) (C := RX18) (T := TX18) (N := 7) hx hb hts mem_T3_init_0 tyX18 tyX18_ok nmX18 hown hK hP hD hS 0 rfl rfl 1 (by decide) (ow (k := 5) rfl) (fun _ h9 => h9) rfl (by decide +kernel) rfl rfl (Nat.le_of_ble_eq_true rfl) dT3_init_38 (fun H locs hP hD hS => ?_)
      have hP : va_P (dC, dI) vwQ [(h0, .inr (15, [.ref h0, .null, .null, .null, .null, .int 0, .int 0]))] H := hP
      have hD : va_D A [(h0, .inr (15, [.ref h0, .null, .null, .null, .null, .int 0, .int 0]))] := hD
      refine lv_aload_n hx hb dT3_init_41 rfl (lv_at hl 0 rfl) ?_
      refine lv_aload_nN hx hb dT3_init_42 rfl (lv_at hl 1 rfl) ?_
      refine va_put (D := (dC, dI)) (ci := 15) (v := .null) (ty := .object "java/lang/String") (C := RX18) (T := TX18) (N := 7) hx hb hts mem_T3_init_0 tyX18 tyX18_ok nmX18 hown hK hP hD hS 0 rfl rfl 3 (by decide) (ow (k := 8) rfl) (fun _ h9 => h9) rfl (by decide +kernel) rfl rfl (Nat.le_of_ble_eq_true rfl) dT3_init_43 (fun H locs hP hD hS => ?_)
      have hP : va_P (dC, dI) vwQ [(h0, .inr (15, [.ref h0, .null, .null, .null, .null, .int 0, .int 0]))] H := hP
      have hD : va_D A [(h0, .inr (15, [.ref h0, .null, .null, .null, .null, .int 0, .int 0]))] := hD
      refine lv_aload_n hx hb dT3_init_46 rfl (lv_at hl 0 rfl) ?_
      refine lv_aload_nN hx hb dT3_init_47 rfl (lv_at hl 2 rfl) ?_
      refine va_put (D := (dC, dI)) (ci := 15) (v := .null) (ty := .object "java/lang/Throwable") (C := RX18) (T := TX18) (N := 7) hx hb hts mem_T3_init_0 tyX18 tyX18_ok nmX18 hown hK hP hD hS 0 rfl rfl 0 (by decide) (ow (k := 3) rfl) (fun _ h9 => h9) rfl (by decide +kernel) rfl rfl (Nat.le_of_ble_eq_true rfl) dT3_init_48 (fun H locs hP hD hS => ?_)
      have hP : va_P (dC, dI) vwQ [(h0, .inr (15, [.null, .null, .null, .null, .null, .int 0, .int 0]))] H := hP
      have hD : va_D A [(h0, .inr (15, [.null, .null, .null, .null, .null, .int 0, .int 0]))] := hD
      refine lv_iload_n hx hb dT3_init_51 rfl (lv_at hl 3 rfl) ?_
      refine lv_if_ne (tgt := 60) hx hb dT3_init_52 (by decide) (fun h9 => absurd h9 (by decide)) (fun _ => ?_)
      refine lv_aload_n hx hb dT3_init_55 rfl (lv_at hl 0 rfl) ?_
      refine lv_null hx hb dT3_init_56 ?_
      refine va_put (D := (dC, dI)) (ci := 15) (v := .null) (ty := .object "java/util/List") (C := RX18) (T := TX18) (N := 7) hx hb hts mem_T3_init_0 tyX18 tyX18_ok nmX18 hown hK hP hD hS 0 rfl rfl 2 (by decide) (ow (k := 7) rfl) (fun _ h9 => h9) rfl (by decide +kernel) rfl rfl (Nat.le_of_ble_eq_true rfl) dT3_init_57 (fun H locs hP hD hS => ?_)
      have hP : va_P (dC, dI) vwQ [(h0, .inr (15, [.null, .null, .null, .null, .null, .int 0, .int 0]))] H := hP
      have hD : va_D A [(h0, .inr (15, [.null, .null, .null, .null, .null, .int 0, .int 0]))] := hD
      subst hQ
      refine W.widen (k := 0) (n := 0) (Nat.le_of_ble_eq_true rfl) (Nat.le_of_ble_eq_true rfl) ?_
      exact W.vret hx hb hr (fun t ht hW => ⟨⟨(), rfl, trivial, by rw [ht]; exact hP, va_K.moved hW.alike hK, hD⟩, hS.F ht⟩) hS.2.2 dT3_init_60
    · refine va_gets (v := .ref tz_5) hx hb hz_6 hS hown (ow (k := 6) rfl) (fun _ h9 => h9) dT3_init_17 ?_
      refine va_put (D := (dC, dI)) (ci := 15) (v := .ref tz_5) (ty := .object "java/util/List") (C := RX18) (T := TX18) (N := 7) hx hb hts mem_T3_init_0 tyX18 tyX18_ok nmX18 hown hK hP hD hS 0 rfl rfl 2 (by decide) (ow (k := 7) rfl) (fun _ h9 => h9) rfl (by decide +kernel) rfl rfl (Nat.le_of_ble_eq_true rfl) dT3_init_20 (fun H locs hP hD hS => ?_)
      have hP : va_P (dC, dI) vwQ [(h0, .inr (15, [.ref h0, .ref tz_1, .ref tz_5, .null, .null, .int 0, .int 0]))] H := hP
      have hD : va_D A [(h0, .inr (15, [.ref h0, .ref tz_1, .ref tz_5, .null, .null, .int 0, .int 0]))] := hD
      refine lv_iload hx hb dT3_init_23 (lv_at hl 4 rfl) ?_
      refine lv_if_eq (tgt := 36) hx hb dT3_init_25 (by decide) (fun _ => ?_) (fun h9 => absurd h9 (by decide))
      refine lv_aload_n hx hb dT3_init_36 rfl (lv_at hl 0 rfl) ?_
      refine lv_null hx hb dT3_init_37 ?_
      refine va_put (D := (dC, dI)) (ci := 15) (v := .null) (ty := .array (.object "java/lang/StackTraceElement")) (C := RX18) (T := TX18) (N := 7) hx hb hts mem_T3_init_0 tyX18 tyX18_ok nmX18 hown hK hP hD hS 0 rfl rfl 1 (by decide) (ow (k := 5) rfl) (fun _ h9 => h9) rfl (by decide +kernel) rfl rfl (Nat.le_of_ble_eq_true rfl) dT3_init_38 (fun H locs hP hD hS => ?_)
      have hP : va_P (dC, dI) vwQ [(h0, .inr (15, [.ref h0, .null, .ref tz_5, .null, .null, .int 0, .int 0]))] H := hP
      have hD : va_D A [(h0, .inr (15, [.ref h0, .null, .ref tz_5, .null, .null, .int 0, .int 0]))] := hD
      refine lv_aload_n hx hb dT3_init_41 rfl (lv_at hl 0 rfl) ?_
      refine lv_aload_nN hx hb dT3_init_42 rfl (lv_at hl 1 rfl) ?_
      refine va_put (D := (dC, dI)) (ci := 15) (v := .null) (ty := .object "java/lang/String") (C := RX18) (T := TX18) (N := 7) hx hb hts mem_T3_init_0 tyX18 tyX18_ok nmX18 hown hK hP hD hS 0 rfl rfl 3 (by decide) (ow (k := 8) rfl) (fun _ h9 => h9) rfl (by decide +kernel) rfl rfl (Nat.le_of_ble_eq_true rfl) dT3_init_43 (fun H locs hP hD hS => ?_)
      have hP : va_P (dC, dI) vwQ [(h0, .inr (15, [.ref h0, .null, .ref tz_5, .null, .null, .int 0, .int 0]))] H := hP
      have hD : va_D A [(h0, .inr (15, [.ref h0, .null, .ref tz_5, .null, .null, .int 0, .int 0]))] := hD
      refine lv_aload_n hx hb dT3_init_46 rfl (lv_at hl 0 rfl) ?_
      refine lv_aload_nN hx hb dT3_init_47 rfl (lv_at hl 2 rfl) ?_
      refine va_put (D := (dC, dI)) (ci := 15) (v := .null) (ty := .object "java/lang/Throwable") (C := RX18) (T := TX18) (N := 7) hx hb hts mem_T3_init_0 tyX18 tyX18_ok nmX18 hown hK hP hD hS 0 rfl rfl 0 (by decide) (ow (k := 3) rfl) (fun _ h9 => h9) rfl (by decide +kernel) rfl rfl (Nat.le_of_ble_eq_true rfl) dT3_init_48 (fun H locs hP hD hS => ?_)
      have hP : va_P (dC, dI) vwQ [(h0, .inr (15, [.null, .null, .ref tz_5, .null, .null, .int 0, .int 0]))] H := hP
      have hD : va_D A [(h0, .inr (15, [.null, .null, .ref tz_5, .null, .null, .int 0, .int 0]))] := hD
      refine lv_iload_n hx hb dT3_init_51 rfl (lv_at hl 3 rfl) ?_
      refine lv_if_ne (tgt := 60) hx hb dT3_init_52 (by decide) (fun h9 => absurd h9 (by decide)) (fun _ => ?_)
      refine lv_aload_n hx hb dT3_init_55 rfl (lv_at hl 0 rfl) ?_
      refine lv_null hx hb dT3_init_56 ?_
      refine va_put (D := (dC, dI)) (ci := 15) (v := .null) (ty := .object "java/util/List") (C := RX18) (T := TX18) (N := 7) hx hb hts mem_T3_init_0 tyX18 tyX18_ok nmX18 hown hK hP hD hS 0 rfl rfl 2 (by decide) (ow (k := 7) rfl) (fun _ h9 => h9) rfl (by decide +kernel) rfl rfl (Nat.le_of_ble_eq_true rfl) dT3_init_57 (fun H locs hP hD hS => ?_)
      have hP : va_P (dC, dI) vwQ [(h0, .inr (15, [.null, .null, .null, .null, .null, .int 0, .int 0]))] H := hP
      have hD : va_D A [(h0, .inr (15, [.null, .null, .null, .null, .null, .int 0, .int 0]))] := hD
      subst hQ
      refine W.widen (k := 0) (n := 0) (Nat.le_of_ble_eq_true rfl) (Nat.le_of_ble_eq_true rfl) ?_
      exact W.vret hx hb hr (fun t ht hW => ⟨⟨(), rfl, trivial, by rw [ht]; exact hP, va_K.moved hW.alike hK, hD⟩, hS.F ht⟩) hS.2.2 dT3_init_60
theorem dT2_init_0 : decode cT2_init 0 = .ok (.aload_n 0, 1) := by decide +kernel
theorem dT2_init_1 : decode cT2_init 1 = .ok (.aload_n 1, 1) := by decide +kernel
theorem dT2_init_2 : decode cT2_init 2 = .ok (.aload_n 2, 1) := by decide +kernel
theorem dT2_init_3 : decode cT2_init 3 = .ok (.iload_n 3, 1) := by decide +kernel
theorem dT2_init_4 : decode cT2_init 4 = .ok (.iload 4, 2) := by decide +kernel
theorem dT2_init_6 : decode cT2_init 6 = .ok (.invokespecial 16, 3) := by decide +kernel
theorem dT2_init_9 : decode cT2_init 9 = .ok (.return_, 1) := by decide +kernel
def o_T2_init : List Cond := [.initialized RT3, .methodLink RT2 16 yT3_init, .instanceMethod yT3_init]
def v_T2_init : List Cond := .code yT2_init cT2_init 5 none :: (o_T2_init ++ (v_T3_init ++ []))
theorem mow_T2_init : ∀ w ∈ o_T2_init, w ∈ v_T2_init := fun _ h => List.mem_cons_of_mem _ (List.mem_append_left _ h)
theorem mem_T2_init_0 : ∀ w ∈ v_T3_init, w ∈ v_T2_init := fun _ h => List.mem_cons_of_mem _ (List.mem_append_right _ (List.mem_append_left _ h))
set_option maxRecDepth 20000 in
theorem gw_T2_init : v_T2_init.all goodWord = true := by decide +kernel
set_option maxHeartbeats 4000000 in
set_option maxRecDepth 100000 in
theorem c_T2_init (l : Launch) (dC : Nat → ClassId) (dI : Nat → Nat → Nat) (h0 : Nat) (sz : Nat) : Met l yT2_init v_T2_init ({ frames := 2, cells := 0, slots := 0, locals := 36 }) (va_Pc [.ref h0, .null, .null, .int 0, .int 0] (fun U => U.heap.size = sz ∧ va_P (dC, dI) vwQ [(h0, .inr (15, [.null, .null, .null, .null, .null, .int 0, .int 0]))] U.heap ∧ va_K (dC, dI) vwQ [] U ∧ va_D (fun _ => True) [(h0, .inr (15, [.null, .null, .null, .null, .null, .int 0, .int 0]))] ∧ vx_Zq Bundle.tN "UNASSIGNED_STACK" Bundle.steD (va_A [(h0, .inr (15, [.null, .null, .null, .null, .null, .int 0, .int 0]))] sz) U U.heap ∧ vx_Zq Bundle.tN "SUPPRESSED_SENTINEL" Bundle.listD (va_A [(h0, .inr (15, [.null, .null, .null, .null, .null, .int 0, .int 0]))] sz) U U.heap)) (va_Qv (fun _ : Unit => True) (fun (_ : Unit) (t : State) => va_P (dC, dI) vwQ [(h0, .inr (15, [.null, .null, .null, .null, .null, .int 0, .int 0]))] t.heap ∧ va_K (dC, dI) vwQ [] t ∧ va_D (va_A [(h0, .inr (15, [.null, .null, .null, .null, .null, .int 0, .int 0]))] sz) [(h0, .inr (15, [.null, .null, .null, .null, .null, .int 0, .int 0]))]) (va_A [(h0, .inr (15, [.null, .null, .null, .null, .null, .int 0, .int 0]))] sz)) 0 0 (va_A [(h0, .inr (15, [.null, .null, .null, .null, .null, .int 0, .int 0]))] sz) := by
  refine Met.ofW (cc := cT2_init) (maxL := 5) (ret := none) (by decide) rfl ?_
  intro p e s m args below meth c s₁ B hml hv
  obtain ⟨rfl, hsz, hP, hK, hD0, hp0, hp1⟩ := hv
  have hx := B.exec
  have hb := B.bytes
  have hr := B.returns
  have hts := atoms_spec (ws := v_T2_init) B.pre
  have hown : s.vm.findClass RT2 = some m.cls := findClass_of_methodNamed B.named
  have hlocks := B.notSynchronized
  have ow : ∀ {k : Nat} {w : Cond}, o_T2_init[k]? = some w → w.before ([.ref h0, .null, .null, .int 0, .int 0] : List Value).toArray s = true := fun h => hts _ (mow_T2_init _ (List.mem_of_getElem? h))
  have hin : meth.name = "<init>" := (name_of_methodNamed B.named B.method).1
  subst hsz
  have hD := hD0.self (sz := s.heap.size)
  generalize hAe : va_A [(h0, .inr (15, [.null, .null, .null, .null, .null, .int 0, .int 0]))] s.heap.size = A at hD hp0 hp1 ⊢
  have hA : ∀ q : Nat, s.heap.size ≤ q → A q := fun q h => by rw [← hAe]; exact Or.inr h
  have hS : va_S A s.heap s.heap [] := va_S.rf
  have hP : va_P (dC, dI) vwQ [(h0, .inr (15, [.null, .null, .null, .null, .null, .int 0, .int 0]))] s.heap := hP
  have hl := lv_entry ([.ref h0, .null, .null, .int 0, .int 0]) (n := 5) (Nat.le_of_ble_eq_true rfl)
  rw [lg_entry_eq]
  generalize (lg_sl ([.ref h0, .null, .null, .int 0, .int 0]) ++ List.replicate (5 - (lg_sl ([.ref h0, .null, .null, .int 0, .int 0])).length) Slot.unset).toArray = ls at hl ⊢
  have hl : lv_has ls 5 [(0, .ref h0), (1, .null), (2, .null), (3, .int 0), (4, .int 0)] := hl
  obtain ⟨H, hH⟩ : ∃ H, H = s.heap := ⟨_, rfl⟩
  rw [← hH] at hP
  have hS : va_S A s.heap H [] := by rw [hH]; exact hS
  rw [← hH]
  refine zW_cap (fun Q hQ => ?_)
  refine lv_aload_n hx hb dT2_init_0 rfl (lv_at hl 0 rfl) ?_
  refine lv_aload_nN hx hb dT2_init_1 rfl (lv_at hl 1 rfl) ?_
  refine lv_aload_nN hx hb dT2_init_2 rfl (lv_at hl 2 rfl) ?_
  refine lv_iload_n hx hb dT2_init_3 rfl (lv_at hl 3 rfl) ?_
  refine lv_iload hx hb dT2_init_4 (lv_at hl 4 rfl) ?_
  have hPc := hP.sub (ws' := [(h0, .inr (15, [.null, .null, .null, .null, .null, .int 0, .int 0]))]) [0] rfl
  have hDc := hD.sub (ws' := [(h0, .inr (15, [.null, .null, .null, .null, .null, .int 0, .int 0]))]) [0] (by decide) rfl
  have hKc := hK.sub (tys' := []) [] rfl
  have hFc := va_free (wc := [(h0, .inr (15, [.null, .null, .null, .null, .null, .int 0, .int 0]))]) hD hS hA [0] rfl
  refine va_callv (va_runI (As := [.null, .null, .int 0, .int 0]) (rest := []) ⟨hx, hb, hml, hown, hts⟩ (c_T3_init l dC dI h0 H.size) (cwI 4 hts (goodIn_sub mem_T2_init_0 gw_T3_init) rfl rfl rfl (ow (k := 0) rfl) (ow (k := 1) rfl) (ow (k := 2) rfl) rfl (by decide +kernel) ⟨(Nat.le_of_ble_eq_true rfl), (Nat.le_of_ble_eq_true rfl)⟩) ⟨fun a U g mk q => by obtain ⟨q0, q1, qP, qK, qD, e0, e1⟩ := q; exact ⟨q0, q1, qP, va_K.moved (u := U) (U := U.calling g mk a) (Vm.Alike.refl U.vm) qK, qD, vx_Zq.moved (u := U) (U := U.calling g mk a) (Vm.Alike.refl U.vm) e0, vx_Zq.moved (u := U) (U := U.calling g mk a) (Vm.Alike.refl U.vm) e1⟩, fun U hU hW => ⟨rfl, by rw [hU], by rw [hU]; exact hPc, va_K.moved hW.alike hKc, hDc.weaken (fun _ _ _ _ => trivial), by rw [hU]; exact vx_Zq.narrow (vx_Zq.moved hW.alike (vx_Zq.kept hp0 hS.2.1)) hFc, by rw [hU]; exact vx_Zq.narrow (vx_Zq.moved hW.alike (vx_Zq.kept hp1 hS.2.1)) hFc⟩⟩ rfl rfl hl.1 rfl (lv_room (Nat.le_of_ble_eq_true rfl)) dT2_init_6 ⟨(Nat.le_of_ble_eq_true rfl), (Nat.le_of_ble_eq_true rfl)⟩) hS (fun q _ h => hFc q h) hFc (fun  u t H1 locs ht hvm hw hB hz1 hk1 hS => ?_)
  obtain ⟨hP1, hK1, hD1⟩ := hB
  rw [ht] at hP1
  have hK1 := va_K.moved hvm.symm hK1
  obtain ⟨hP, hD⟩ := va_join (wr := []) (w1 := [(h0, .inr (15, [.null, .null, .null, .null, .null, .int 0, .int 0]))]) hP hD [0] [] rfl rfl (by decide) (by decide) hk1 hFc hP1 hD1
  have hK := (hK.sub (tys' := []) [] rfl).app hK1
  generalize H1 = H at hP hS ⊢
  have hP : va_P (dC, dI) vwQ [(h0, .inr (15, [.null, .null, .null, .null, .null, .int 0, .int 0]))] H := hP
  have hD : va_D A [(h0, .inr (15, [.null, .null, .null, .null, .null, .int 0, .int 0]))] := hD
  have hK : va_K (dC, dI) vwQ [] s := hK
  refine W.widen (k := 0) (n := 0) (Nat.le_of_ble_eq_true rfl) (Nat.le_of_ble_eq_true rfl) ?_
  subst hQ
  refine W.widen (k := 0) (n := 0) (Nat.le_of_ble_eq_true rfl) (Nat.le_of_ble_eq_true rfl) ?_
  exact W.vret hx hb hr (fun t ht hW => ⟨⟨(), rfl, trivial, by rw [ht]; exact hP, va_K.moved hW.alike hK, hD⟩, hS.F ht⟩) hS.2.2 dT2_init_9
theorem dT1_init_0 : decode cT1_init 0 = .ok (.aload_n 0, 1) := by decide +kernel
theorem dT1_init_1 : decode cT1_init 1 = .ok (.aload_n 1, 1) := by decide +kernel
theorem dT1_init_2 : decode cT1_init 2 = .ok (.aload_n 2, 1) := by decide +kernel
theorem dT1_init_3 : decode cT1_init 3 = .ok (.iload_n 3, 1) := by decide +kernel
theorem dT1_init_4 : decode cT1_init 4 = .ok (.iload 4, 2) := by decide +kernel
theorem dT1_init_6 : decode cT1_init 6 = .ok (.invokespecial 16, 3) := by decide +kernel
theorem dT1_init_9 : decode cT1_init 9 = .ok (.return_, 1) := by decide +kernel
def o_T1_init : List Cond := [.initialized RT2, .methodLink RT1 16 yT2_init, .instanceMethod yT2_init]
def v_T1_init : List Cond := .code yT1_init cT1_init 5 none :: (o_T1_init ++ (v_T2_init ++ []))
theorem mow_T1_init : ∀ w ∈ o_T1_init, w ∈ v_T1_init := fun _ h => List.mem_cons_of_mem _ (List.mem_append_left _ h)
theorem mem_T1_init_0 : ∀ w ∈ v_T2_init, w ∈ v_T1_init := fun _ h => List.mem_cons_of_mem _ (List.mem_append_right _ (List.mem_append_left _ h))
set_option maxRecDepth 20000 in
theorem gw_T1_init : v_T1_init.all goodWord = true := by decide +kernel
set_option maxHeartbeats 4000000 in
set_option maxRecDepth 100000 in
theorem c_T1_init (l : Launch) (dC : Nat → ClassId) (dI : Nat → Nat → Nat) (h0 : Nat) (sz : Nat) : Met l yT1_init v_T1_init ({ frames := 3, cells := 0, slots := 0, locals := 60 }) (va_Pc [.ref h0, .null, .null, .int 0, .int 0] (fun U => U.heap.size = sz ∧ va_P (dC, dI) vwQ [(h0, .inr (15, [.null, .null, .null, .null, .null, .int 0, .int 0]))] U.heap ∧ va_K (dC, dI) vwQ [] U ∧ va_D (fun _ => True) [(h0, .inr (15, [.null, .null, .null, .null, .null, .int 0, .int 0]))] ∧ vx_Zq Bundle.tN "UNASSIGNED_STACK" Bundle.steD (va_A [(h0, .inr (15, [.null, .null, .null, .null, .null, .int 0, .int 0]))] sz) U U.heap ∧ vx_Zq Bundle.tN "SUPPRESSED_SENTINEL" Bundle.listD (va_A [(h0, .inr (15, [.null, .null, .null, .null, .null, .int 0, .int 0]))] sz) U U.heap)) (va_Qv (fun _ : Unit => True) (fun (_ : Unit) (t : State) => va_P (dC, dI) vwQ [(h0, .inr (15, [.null, .null, .null, .null, .null, .int 0, .int 0]))] t.heap ∧ va_K (dC, dI) vwQ [] t ∧ va_D (va_A [(h0, .inr (15, [.null, .null, .null, .null, .null, .int 0, .int 0]))] sz) [(h0, .inr (15, [.null, .null, .null, .null, .null, .int 0, .int 0]))]) (va_A [(h0, .inr (15, [.null, .null, .null, .null, .null, .int 0, .int 0]))] sz)) 0 0 (va_A [(h0, .inr (15, [.null, .null, .null, .null, .null, .int 0, .int 0]))] sz) := by
  refine Met.ofW (cc := cT1_init) (maxL := 5) (ret := none) (by decide) rfl ?_
  intro p e s m args below meth c s₁ B hml hv
  obtain ⟨rfl, hsz, hP, hK, hD0, hp0, hp1⟩ := hv
  have hx := B.exec
  have hb := B.bytes
  have hr := B.returns
  have hts := atoms_spec (ws := v_T1_init) B.pre
  have hown : s.vm.findClass RT1 = some m.cls := findClass_of_methodNamed B.named
  have hlocks := B.notSynchronized
  have ow : ∀ {k : Nat} {w : Cond}, o_T1_init[k]? = some w → w.before ([.ref h0, .null, .null, .int 0, .int 0] : List Value).toArray s = true := fun h => hts _ (mow_T1_init _ (List.mem_of_getElem? h))
  have hin : meth.name = "<init>" := (name_of_methodNamed B.named B.method).1
  subst hsz
  have hD := hD0.self (sz := s.heap.size)
  generalize hAe : va_A [(h0, .inr (15, [.null, .null, .null, .null, .null, .int 0, .int 0]))] s.heap.size = A at hD hp0 hp1 ⊢
  have hA : ∀ q : Nat, s.heap.size ≤ q → A q := fun q h => by rw [← hAe]; exact Or.inr h
  have hS : va_S A s.heap s.heap [] := va_S.rf
  have hP : va_P (dC, dI) vwQ [(h0, .inr (15, [.null, .null, .null, .null, .null, .int 0, .int 0]))] s.heap := hP
  have hl := lv_entry ([.ref h0, .null, .null, .int 0, .int 0]) (n := 5) (Nat.le_of_ble_eq_true rfl)
  rw [lg_entry_eq]
  generalize (lg_sl ([.ref h0, .null, .null, .int 0, .int 0]) ++ List.replicate (5 - (lg_sl ([.ref h0, .null, .null, .int 0, .int 0])).length) Slot.unset).toArray = ls at hl ⊢
  have hl : lv_has ls 5 [(0, .ref h0), (1, .null), (2, .null), (3, .int 0), (4, .int 0)] := hl
  obtain ⟨H, hH⟩ : ∃ H, H = s.heap := ⟨_, rfl⟩
  rw [← hH] at hP
  have hS : va_S A s.heap H [] := by rw [hH]; exact hS
  rw [← hH]
  refine zW_cap (fun Q hQ => ?_)
  refine lv_aload_n hx hb dT1_init_0 rfl (lv_at hl 0 rfl) ?_
  refine lv_aload_nN hx hb dT1_init_1 rfl (lv_at hl 1 rfl) ?_
  refine lv_aload_nN hx hb dT1_init_2 rfl (lv_at hl 2 rfl) ?_
  refine lv_iload_n hx hb dT1_init_3 rfl (lv_at hl 3 rfl) ?_
  refine lv_iload hx hb dT1_init_4 (lv_at hl 4 rfl) ?_
  have hPc := hP.sub (ws' := [(h0, .inr (15, [.null, .null, .null, .null, .null, .int 0, .int 0]))]) [0] rfl
  have hDc := hD.sub (ws' := [(h0, .inr (15, [.null, .null, .null, .null, .null, .int 0, .int 0]))]) [0] (by decide) rfl
  have hKc := hK.sub (tys' := []) [] rfl
  have hFc := va_free (wc := [(h0, .inr (15, [.null, .null, .null, .null, .null, .int 0, .int 0]))]) hD hS hA [0] rfl
  refine va_callv (va_runI (As := [.null, .null, .int 0, .int 0]) (rest := []) ⟨hx, hb, hml, hown, hts⟩ (c_T2_init l dC dI h0 H.size) (cwI 4 hts (goodIn_sub mem_T1_init_0 gw_T2_init) rfl rfl rfl (ow (k := 0) rfl) (ow (k := 1) rfl) (ow (k := 2) rfl) rfl (by decide +kernel) ⟨(Nat.le_of_ble_eq_true rfl), (Nat.le_of_ble_eq_true rfl)⟩) ⟨fun a U g mk q => by obtain ⟨q0, q1, qP, qK, qD, e0, e1⟩ := q; exact ⟨q0, q1, qP, va_K.moved (u := U) (U := U.calling g mk a) (Vm.Alike.refl U.vm) qK, qD, vx_Zq.moved (u := U) (U := U.calling g mk a) (Vm.Alike.refl U.vm) e0, vx_Zq.moved (u := U) (U := U.calling g mk a) (Vm.Alike.refl U.vm) e1⟩, fun U hU hW => ⟨rfl, by rw [hU], by rw [hU]; exact hPc, va_K.moved hW.alike hKc, hDc.weaken (fun _ _ _ _ => trivial), by rw [hU]; exact vx_Zq.narrow (vx_Zq.moved hW.alike (vx_Zq.kept hp0 hS.2.1)) hFc, by rw [hU]; exact vx_Zq.narrow (vx_Zq.moved hW.alike (vx_Zq.kept hp1 hS.2.1)) hFc⟩⟩ rfl rfl hl.1 rfl (lv_room (Nat.le_of_ble_eq_true rfl)) dT1_init_6 ⟨(Nat.le_of_ble_eq_true rfl), (Nat.le_of_ble_eq_true rfl)⟩) hS (fun q _ h => hFc q h) hFc (fun  u t H1 locs ht hvm hw hB hz1 hk1 hS => ?_)
  obtain ⟨hP1, hK1, hD1⟩ := hB
  rw [ht] at hP1
  have hK1 := va_K.moved hvm.symm hK1
  obtain ⟨hP, hD⟩ := va_join (wr := []) (w1 := [(h0, .inr (15, [.null, .null, .null, .null, .null, .int 0, .int 0]))]) hP hD [0] [] rfl rfl (by decide) (by decide) hk1 hFc hP1 hD1
  have hK := (hK.sub (tys' := []) [] rfl).app hK1
  generalize H1 = H at hP hS ⊢
  have hP : va_P (dC, dI) vwQ [(h0, .inr (15, [.null, .null, .null, .null, .null, .int 0, .int 0]))] H := hP
  have hD : va_D A [(h0, .inr (15, [.null, .null, .null, .null, .null, .int 0, .int 0]))] := hD
  have hK : va_K (dC, dI) vwQ [] s := hK
  refine W.widen (k := 0) (n := 0) (Nat.le_of_ble_eq_true rfl) (Nat.le_of_ble_eq_true rfl) ?_
  subst hQ
  refine W.widen (k := 0) (n := 0) (Nat.le_of_ble_eq_true rfl) (Nat.le_of_ble_eq_true rfl) ?_
  exact W.vret hx hb hr (fun t ht hW => ⟨⟨(), rfl, trivial, by rw [ht]; exact hP, va_K.moved hW.alike hK, hD⟩, hS.F ht⟩) hS.2.2 dT1_init_9
theorem dX18_init_0 : decode cX18_init 0 = .ok (.aload_n 0, 1) := by decide +kernel
theorem dX18_init_1 : decode cX18_init 1 = .ok (.aconst_null, 1) := by decide +kernel
theorem dX18_init_2 : decode cX18_init 2 = .ok (.aconst_null, 1) := by decide +kernel
theorem dX18_init_3 : decode cX18_init 3 = .ok (.iconst 0, 1) := by decide +kernel
theorem dX18_init_4 : decode cX18_init 4 = .ok (.iconst 0, 1) := by decide +kernel
theorem dX18_init_5 : decode cX18_init 5 = .ok (.invokespecial 1, 3) := by decide +kernel
theorem dX18_init_8 : decode cX18_init 8 = .ok (.aload_n 0, 1) := by decide +kernel
theorem dX18_init_9 : decode cX18_init 9 = .ok (.iload_n 1, 1) := by decide +kernel
theorem dX18_init_10 : decode cX18_init 10 = .ok (.putfield 7, 3) := by decide +kernel
theorem dX18_init_13 : decode cX18_init 13 = .ok (.return_, 1) := by decide +kernel
def o_X18_init : List Cond := [.initialized RT1, .methodLink RX18 1 yT1_init, .instanceMethod yT1_init, .fieldLink RX18 7 "SsaForgeModel$Wrong" "place" "I"]
def v_X18_init : List Cond := .code yX18_init cX18_init 2 none :: (o_X18_init ++ (v_T1_init ++ (wsX180 ++ [])))
theorem mow_X18_init : ∀ w ∈ o_X18_init, w ∈ v_X18_init := fun _ h => List.mem_cons_of_mem _ (List.mem_append_left _ h)
theorem mem_X18_init_0 : ∀ w ∈ v_T1_init, w ∈ v_X18_init := fun _ h => List.mem_cons_of_mem _ (List.mem_append_right _ (List.mem_append_left _ h))
theorem mem_X18_init_1 : ∀ w ∈ wsX180, w ∈ v_X18_init := fun _ h => List.mem_cons_of_mem _ (List.mem_append_right _ (List.mem_append_right _ (List.mem_append_left _ h)))
set_option maxRecDepth 20000 in
theorem gw_X18_init : v_X18_init.all goodWord = true := by decide +kernel
set_option maxHeartbeats 4000000 in
set_option maxRecDepth 100000 in
theorem c_X18_init (l : Launch) (dC : Nat → ClassId) (dI : Nat → Nat → Nat) (h0 : Nat) (x0 : Int) (hNx : 0 ≤ x0 ∧ x0 ≤ 8192) (sz : Nat) : Met l yX18_init v_X18_init ({ frames := 4, cells := 0, slots := 0, locals := 84 }) (va_Pc [.ref h0, .int (zI (x0))] (fun U => U.heap.size = sz ∧ va_P (dC, dI) vwQ [(h0, .inr (15, [.null, .null, .null, .null, .null, .int 0, .int 0]))] U.heap ∧ va_K (dC, dI) vwQ [] U ∧ va_D (fun _ => True) [(h0, .inr (15, [.null, .null, .null, .null, .null, .int 0, .int 0]))] ∧ vx_Zq Bundle.tN "UNASSIGNED_STACK" Bundle.steD (va_A [(h0, .inr (15, [.null, .null, .null, .null, .null, .int 0, .int 0]))] sz) U U.heap ∧ vx_Zq Bundle.tN "SUPPRESSED_SENTINEL" Bundle.listD (va_A [(h0, .inr (15, [.null, .null, .null, .null, .null, .int 0, .int 0]))] sz) U U.heap)) (va_Qv (fun _ : Unit => True) (fun (_ : Unit) (t : State) => ∃ (z0_9 : Int), ((0 ≤ z0_9 ∧ z0_9 ≤ 8192)) ∧ va_P (dC, dI) vwQ [(h0, .inr (15, [.null, .null, .null, .null, .null, .int 0, .int (zI (z0_9))]))] t.heap ∧ va_K (dC, dI) vwQ [] t ∧ va_D (va_A [(h0, .inr (15, [.null, .null, .null, .null, .null, .int 0, .int 0]))] sz) [(h0, .inr (15, [.null, .null, .null, .null, .null, .int 0, .int (zI (z0_9))]))]) (va_A [(h0, .inr (15, [.null, .null, .null, .null, .null, .int 0, .int 0]))] sz)) 0 0 (va_A [(h0, .inr (15, [.null, .null, .null, .null, .null, .int 0, .int 0]))] sz) := by
  refine Met.ofW (cc := cX18_init) (maxL := 2) (ret := none) (by decide) rfl ?_
  intro p e s m args below meth c s₁ B hml hv
  obtain ⟨rfl, hsz, hP, hK, hD0, hp0, hp1⟩ := hv
  have hx := B.exec
  have hb := B.bytes
  have hr := B.returns
  have hts := atoms_spec (ws := v_X18_init) B.pre
  have hown : s.vm.findClass RX18 = some m.cls := findClass_of_methodNamed B.named
  have hlocks := B.notSynchronized
  have ow : ∀ {k : Nat} {w : Cond}, o_X18_init[k]? = some w → w.before ([.ref h0, .int (zI (x0))] : List Value).toArray s = true := fun h => hts _ (mow_X18_init _ (List.mem_of_getElem? h))
  have hin : meth.name = "<init>" := (name_of_methodNamed B.named B.method).1
  subst hsz
  have hD := hD0.self (sz := s.heap.size)
  generalize hAe : va_A [(h0, .inr (15, [.null, .null, .null, .null, .null, .int 0, .int 0]))] s.heap.size = A at hD hp0 hp1 ⊢
  have hA : ∀ q : Nat, s.heap.size ≤ q → A q := fun q h => by rw [← hAe]; exact Or.inr h
  have hS : va_S A s.heap s.heap [] := va_S.rf
  have hP : va_P (dC, dI) vwQ [(h0, .inr (15, [.null, .null, .null, .null, .null, .int 0, .int 0]))] s.heap := hP
  have hl := lv_entry ([.ref h0, .int (zI (x0))]) (n := 2) (Nat.le_of_ble_eq_true rfl)
  rw [lg_entry_eq]
  generalize (lg_sl ([.ref h0, .int (zI (x0))]) ++ List.replicate (2 - (lg_sl ([.ref h0, .int (zI (x0))])).length) Slot.unset).toArray = ls at hl ⊢
  have hl : lv_has ls 2 [(0, .ref h0), (1, .int (zI (x0)))] := hl
  obtain ⟨H, hH⟩ : ∃ H, H = s.heap := ⟨_, rfl⟩
  rw [← hH] at hP
  have hS : va_S A s.heap H [] := by rw [hH]; exact hS
  rw [← hH]
  refine zW_cap (fun Q hQ => ?_)
  refine lv_aload_n hx hb dX18_init_0 rfl (lv_at hl 0 rfl) ?_
  refine lv_null hx hb dX18_init_1 ?_
  refine lv_null hx hb dX18_init_2 ?_
  refine lv_iconst (v := 0) hx hb dX18_init_3 (by decide) ?_
  refine lv_iconst (v := 0) hx hb dX18_init_4 (by decide) ?_
  have hPc := hP.sub (ws' := [(h0, .inr (15, [.null, .null, .null, .null, .null, .int 0, .int 0]))]) [0] rfl
  have hDc := hD.sub (ws' := [(h0, .inr (15, [.null, .null, .null, .null, .null, .int 0, .int 0]))]) [0] (by decide) rfl
  have hKc := hK.sub (tys' := []) [] rfl
  have hFc := va_free (wc := [(h0, .inr (15, [.null, .null, .null, .null, .null, .int 0, .int 0]))]) hD hS hA [0] rfl
  refine va_callv (va_runI (As := [.null, .null, .int 0, .int 0]) (rest := []) ⟨hx, hb, hml, hown, hts⟩ (c_T1_init l dC dI h0 H.size) (cwI 4 hts (goodIn_sub mem_X18_init_0 gw_T1_init) rfl rfl rfl (ow (k := 0) rfl) (ow (k := 1) rfl) (ow (k := 2) rfl) rfl (by decide +kernel) ⟨(Nat.le_of_ble_eq_true rfl), (Nat.le_of_ble_eq_true rfl)⟩) ⟨fun a U g mk q => by obtain ⟨q0, q1, qP, qK, qD, e0, e1⟩ := q; exact ⟨q0, q1, qP, va_K.moved (u := U) (U := U.calling g mk a) (Vm.Alike.refl U.vm) qK, qD, vx_Zq.moved (u := U) (U := U.calling g mk a) (Vm.Alike.refl U.vm) e0, vx_Zq.moved (u := U) (U := U.calling g mk a) (Vm.Alike.refl U.vm) e1⟩, fun U hU hW => ⟨rfl, by rw [hU], by rw [hU]; exact hPc, va_K.moved hW.alike hKc, hDc.weaken (fun _ _ _ _ => trivial), by rw [hU]; exact vx_Zq.narrow (vx_Zq.moved hW.alike (vx_Zq.kept hp0 hS.2.1)) hFc, by rw [hU]; exact vx_Zq.narrow (vx_Zq.moved hW.alike (vx_Zq.kept hp1 hS.2.1)) hFc⟩⟩ rfl rfl hl.1 rfl (lv_room (Nat.le_of_ble_eq_true rfl)) dX18_init_5 ⟨(Nat.le_of_ble_eq_true rfl), (Nat.le_of_ble_eq_true rfl)⟩) hS (fun q _ h => hFc q h) hFc (fun  u t H1 locs ht hvm hw hB hz1 hk1 hS => ?_)
  obtain ⟨hP1, hK1, hD1⟩ := hB
  rw [ht] at hP1
  have hK1 := va_K.moved hvm.symm hK1
  obtain ⟨hP, hD⟩ := va_join (wr := []) (w1 := [(h0, .inr (15, [.null, .null, .null, .null, .null, .int 0, .int 0]))]) hP hD [0] [] rfl rfl (by decide) (by decide) hk1 hFc hP1 hD1
  have hK := (hK.sub (tys' := []) [] rfl).app hK1
  generalize H1 = H at hP hS ⊢
  have hP : va_P (dC, dI) vwQ [(h0, .inr (15, [.null, .null, .null, .null, .null, .int 0, .int 0]))] H := hP
  have hD : va_D A [(h0, .inr (15, [.null, .null, .null, .null, .null, .int 0, .int 0]))] := hD
  have hK : va_K (dC, dI) vwQ [] s := hK
  refine W.widen (k := 0) (n := 0) (Nat.le_of_ble_eq_true rfl) (Nat.le_of_ble_eq_true rfl) ?_
  refine lv_aload_n hx hb dX18_init_8 rfl (lv_at hl 0 rfl) ?_
  refine lv_iload_n hx hb dX18_init_9 rfl (lv_at hl 1 rfl) ?_
  refine va_putF (D := (dC, dI)) (ci := 15) (v := .int (zI (x0))) (ty := .int) (C := RX18) (T := TX18) (N := 7) hx hb hts mem_X18_init_1 tyX18 tyX18_ok nmX18 hown hK hP hD hS 0 rfl rfl 6 (by decide) (ow (k := 3) rfl) (fun _ h9 => h9) rfl hin rfl (by decide +kernel) rfl rfl (Nat.le_of_ble_eq_true rfl) dX18_init_10 (fun H locs hP hD hS => ?_)
  have hP : va_P (dC, dI) vwQ [(h0, .inr (15, [.null, .null, .null, .null, .null, .int 0, .int (zI (x0))]))] H := hP
  have hD : va_D A [(h0, .inr (15, [.null, .null, .null, .null, .null, .int 0, .int (zI (x0))]))] := hD
  subst hQ
  refine W.widen (k := 0) (n := 0) (Nat.le_of_ble_eq_true rfl) (Nat.le_of_ble_eq_true rfl) ?_
  exact W.vret hx hb hr (fun t ht hW => ⟨⟨(), rfl, trivial, x0, (by omega), by rw [ht]; exact hP, va_K.moved hW.alike hK, hD⟩, hS.F ht⟩) hS.2.2 dX18_init_13
