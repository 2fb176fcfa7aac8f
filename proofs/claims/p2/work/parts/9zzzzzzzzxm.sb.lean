theorem dJ1_indexOf_5af95_0 : decode cJ1_indexOf_5af95 0 = .ok (.aload_n 2, 1) := by decide +kernel
theorem dJ1_indexOf_5af95_1 : decode cJ1_indexOf_5af95 1 = .ok (.iconst 0, 1) := by decide +kernel
theorem dJ1_indexOf_5af95_2 : decode cJ1_indexOf_5af95 2 = .ok (.baload, 1) := by decide +kernel
theorem dJ1_indexOf_5af95_3 : decode cJ1_indexOf_5af95 3 = .ok (.istore 5, 2) := by decide +kernel
theorem dJ1_indexOf_5af95_5 : decode cJ1_indexOf_5af95 5 = .ok (.iload_n 1, 1) := by decide +kernel
theorem dJ1_indexOf_5af95_6 : decode cJ1_indexOf_5af95 6 = .ok (.iload_n 3, 1) := by decide +kernel
theorem dJ1_indexOf_5af95_7 : decode cJ1_indexOf_5af95 7 = .ok (.isub, 1) := by decide +kernel
theorem dJ1_indexOf_5af95_8 : decode cJ1_indexOf_5af95 8 = .ok (.istore 6, 2) := by decide +kernel
theorem dJ1_indexOf_5af95_10 : decode cJ1_indexOf_5af95 10 = .ok (.iload 4, 2) := by decide +kernel
theorem dJ1_indexOf_5af95_12 : decode cJ1_indexOf_5af95 12 = .ok (.istore 7, 2) := by decide +kernel
theorem dJ1_indexOf_5af95_14 : decode cJ1_indexOf_5af95 14 = .ok (.iload 7, 2) := by decide +kernel
theorem dJ1_indexOf_5af95_16 : decode cJ1_indexOf_5af95 16 = .ok (.iload 6, 2) := by decide +kernel
theorem dJ1_indexOf_5af95_18 : decode cJ1_indexOf_5af95 18 = .ok (.if_icmp .gt 101, 3) := by decide +kernel
theorem dJ1_indexOf_5af95_119 : decode cJ1_indexOf_5af95 119 = .ok (.iconst (-1), 1) := by decide +kernel
theorem dJ1_indexOf_5af95_120 : decode cJ1_indexOf_5af95 120 = .ok (.ireturn, 1) := by decide +kernel
theorem dJ1_indexOf_5af95_21 : decode cJ1_indexOf_5af95 21 = .ok (.aload_n 0, 1) := by decide +kernel
theorem dJ1_indexOf_5af95_22 : decode cJ1_indexOf_5af95 22 = .ok (.iload 7, 2) := by decide +kernel
theorem dJ1_indexOf_5af95_24 : decode cJ1_indexOf_5af95 24 = .ok (.baload, 1) := by decide +kernel
theorem dJ1_indexOf_5af95_25 : decode cJ1_indexOf_5af95 25 = .ok (.iload 5, 2) := by decide +kernel
theorem dJ1_indexOf_5af95_27 : decode cJ1_indexOf_5af95 27 = .ok (.if_icmp .eq 25, 3) := by decide +kernel
theorem dJ1_indexOf_5af95_52 : decode cJ1_indexOf_5af95 52 = .ok (.iload 7, 2) := by decide +kernel
theorem dJ1_indexOf_5af95_54 : decode cJ1_indexOf_5af95 54 = .ok (.iload 6, 2) := by decide +kernel
theorem dJ1_indexOf_5af95_56 : decode cJ1_indexOf_5af95 56 = .ok (.if_icmp .gt 57, 3) := by decide +kernel
theorem dJ1_indexOf_5af95_113 : decode cJ1_indexOf_5af95 113 = .ok (.iinc 7 1, 3) := by decide +kernel
theorem dJ1_indexOf_5af95_116 : decode cJ1_indexOf_5af95 116 = .ok (.goto (-102), 3) := by decide +kernel
theorem dJ1_indexOf_5af95_59 : decode cJ1_indexOf_5af95 59 = .ok (.iload 7, 2) := by decide +kernel
theorem dJ1_indexOf_5af95_61 : decode cJ1_indexOf_5af95 61 = .ok (.iconst 1, 1) := by decide +kernel
theorem dJ1_indexOf_5af95_62 : decode cJ1_indexOf_5af95 62 = .ok (.iadd, 1) := by decide +kernel
theorem dJ1_indexOf_5af95_63 : decode cJ1_indexOf_5af95 63 = .ok (.istore 8, 2) := by decide +kernel
theorem dJ1_indexOf_5af95_65 : decode cJ1_indexOf_5af95 65 = .ok (.iload 8, 2) := by decide +kernel
theorem dJ1_indexOf_5af95_67 : decode cJ1_indexOf_5af95 67 = .ok (.iload_n 3, 1) := by decide +kernel
theorem dJ1_indexOf_5af95_68 : decode cJ1_indexOf_5af95 68 = .ok (.iadd, 1) := by decide +kernel
theorem dJ1_indexOf_5af95_69 : decode cJ1_indexOf_5af95 69 = .ok (.iconst 1, 1) := by decide +kernel
theorem dJ1_indexOf_5af95_70 : decode cJ1_indexOf_5af95 70 = .ok (.isub, 1) := by decide +kernel
theorem dJ1_indexOf_5af95_71 : decode cJ1_indexOf_5af95 71 = .ok (.istore 9, 2) := by decide +kernel
theorem dJ1_indexOf_5af95_73 : decode cJ1_indexOf_5af95 73 = .ok (.iconst 1, 1) := by decide +kernel
theorem dJ1_indexOf_5af95_74 : decode cJ1_indexOf_5af95 74 = .ok (.istore 10, 2) := by decide +kernel
theorem dJ1_indexOf_5af95_76 : decode cJ1_indexOf_5af95 76 = .ok (.iload 8, 2) := by decide +kernel
theorem dJ1_indexOf_5af95_78 : decode cJ1_indexOf_5af95 78 = .ok (.iload 9, 2) := by decide +kernel
theorem dJ1_indexOf_5af95_80 : decode cJ1_indexOf_5af95 80 = .ok (.if_icmp .ge 23, 3) := by decide +kernel
theorem dJ1_indexOf_5af95_103 : decode cJ1_indexOf_5af95 103 = .ok (.iload 8, 2) := by decide +kernel
theorem dJ1_indexOf_5af95_105 : decode cJ1_indexOf_5af95 105 = .ok (.iload 9, 2) := by decide +kernel
theorem dJ1_indexOf_5af95_107 : decode cJ1_indexOf_5af95 107 = .ok (.if_icmp .ne 6, 3) := by decide +kernel
theorem dJ1_indexOf_5af95_110 : decode cJ1_indexOf_5af95 110 = .ok (.iload 7, 2) := by decide +kernel
theorem dJ1_indexOf_5af95_112 : decode cJ1_indexOf_5af95 112 = .ok (.ireturn, 1) := by decide +kernel
theorem dJ1_indexOf_5af95_83 : decode cJ1_indexOf_5af95 83 = .ok (.aload_n 0, 1) := by decide +kernel
theorem dJ1_indexOf_5af95_84 : decode cJ1_indexOf_5af95 84 = .ok (.iload 8, 2) := by decide +kernel
theorem dJ1_indexOf_5af95_86 : decode cJ1_indexOf_5af95 86 = .ok (.baload, 1) := by decide +kernel
theorem dJ1_indexOf_5af95_87 : decode cJ1_indexOf_5af95 87 = .ok (.aload_n 2, 1) := by decide +kernel
theorem dJ1_indexOf_5af95_88 : decode cJ1_indexOf_5af95 88 = .ok (.iload 10, 2) := by decide +kernel
theorem dJ1_indexOf_5af95_90 : decode cJ1_indexOf_5af95 90 = .ok (.baload, 1) := by decide +kernel
theorem dJ1_indexOf_5af95_91 : decode cJ1_indexOf_5af95 91 = .ok (.if_icmp .ne 12, 3) := by decide +kernel
theorem dJ1_indexOf_5af95_94 : decode cJ1_indexOf_5af95 94 = .ok (.iinc 8 1, 3) := by decide +kernel
theorem dJ1_indexOf_5af95_97 : decode cJ1_indexOf_5af95 97 = .ok (.iinc 10 1, 3) := by decide +kernel
theorem dJ1_indexOf_5af95_100 : decode cJ1_indexOf_5af95 100 = .ok (.goto (-24), 3) := by decide +kernel
theorem dJ1_indexOf_5af95_30 : decode cJ1_indexOf_5af95 30 = .ok (.iinc 7 1, 3) := by decide +kernel
theorem dJ1_indexOf_5af95_33 : decode cJ1_indexOf_5af95 33 = .ok (.iload 7, 2) := by decide +kernel
theorem dJ1_indexOf_5af95_35 : decode cJ1_indexOf_5af95 35 = .ok (.iload 6, 2) := by decide +kernel
theorem dJ1_indexOf_5af95_37 : decode cJ1_indexOf_5af95 37 = .ok (.if_icmp .gt 15, 3) := by decide +kernel
theorem dJ1_indexOf_5af95_40 : decode cJ1_indexOf_5af95 40 = .ok (.aload_n 0, 1) := by decide +kernel
theorem dJ1_indexOf_5af95_41 : decode cJ1_indexOf_5af95 41 = .ok (.iload 7, 2) := by decide +kernel
theorem dJ1_indexOf_5af95_43 : decode cJ1_indexOf_5af95 43 = .ok (.baload, 1) := by decide +kernel
theorem dJ1_indexOf_5af95_44 : decode cJ1_indexOf_5af95 44 = .ok (.iload 5, 2) := by decide +kernel
theorem dJ1_indexOf_5af95_46 : decode cJ1_indexOf_5af95 46 = .ok (.if_icmp .eq 6, 3) := by decide +kernel
theorem dJ1_indexOf_5af95_49 : decode cJ1_indexOf_5af95 49 = .ok (.goto (-19), 3) := by decide +kernel
def o_J1_indexOf5 : List Cond := []
def v_J1_indexOf5 : List Cond := .code yJ1_indexOf_5af95 cJ1_indexOf_5af95 11 (some .int) :: (o_J1_indexOf5 ++ [])
theorem mow_J1_indexOf5 : ∀ w ∈ o_J1_indexOf5, w ∈ v_J1_indexOf5 := fun _ h => List.mem_cons_of_mem _ (List.mem_append_left _ h)
set_option maxRecDepth 20000 in
theorem gw_J1_indexOf5 : v_J1_indexOf5.all goodWord = true := by decide +kernel
set_option maxHeartbeats 4000000 in
set_option maxRecDepth 100000 in
theorem c_J1_indexOf5 (l : Launch) (dC : Nat → ClassId) (dI : Nat → Nat → Nat) (tv : Nat) (tw : Nat) (x1 : Int) (x3 : Int) (tn : Nat) (tf : Nat → Int32) (um : Nat) (uf : Nat → Int32) (hNtn : tn ≤ 1000000) (hNum : 1 ≤ um ∧ um ≤ 1000000) (hNx : x1 = (tn : Int) ∧ x3 = (um : Int)) (sz : Nat) : Met l yJ1_indexOf_5af95 v_J1_indexOf5 ({ frames := 0, cells := 0, slots := 0, locals := 0 }) (va_Pc [.ref tv, .int (zI (x1)), .ref tw, .int (zI (x3)), .int 0] (fun U => U.heap.size = sz ∧ va_P (dC, dI) vwQ [] U.heap ∧ va_K (dC, dI) vwQ [] U ∧ va_D (fun _ => True) [] ∧ va_T .byte tw um (fun j => .int (uf j)) (va_A [] sz) U U.heap ∧ va_T .byte tv tn (fun j => .int (tf j)) (va_A [] sz) U U.heap)) (va_Qi (fun (r : Int32) (_ : Unit) => ∃ z : Int, r = zI z ∧ (-1 ≤ z ∧ (0 ≤ z → z + (um : Int) ≤ (tn : Int) ∧ chF tf z = chF uf 0))) (fun (_ : Unit) (t : State) => va_P (dC, dI) vwQ [] t.heap ∧ va_K (dC, dI) vwQ [] t ∧ va_D (va_A [] sz) []) (va_A [] sz)) 0 0 (va_A [] sz) := by
  refine Met.ofW (cc := cJ1_indexOf_5af95) (maxL := 11) (ret := (some .int)) (by decide) rfl ?_
  intro p e s m args below meth c s₁ B hml hv
  obtain ⟨rfl, hsz, hP, hK, hD0, hp0, hp1⟩ := hv
  have hx := B.exec
  have hb := B.bytes
  have hr := B.returns
  have hts := atoms_spec (ws := v_J1_indexOf5) B.pre
  have hown : s.vm.findClass RJ1 = some m.cls := findClass_of_methodNamed B.named
  have hlocks := B.notSynchronized
  have ow : ∀ {k : Nat} {w : Cond}, o_J1_indexOf5[k]? = some w → w.before ([.ref tv, .int (zI (x1)), .ref tw, .int (zI (x3)), .int 0] : List Value).toArray s = true := fun h => hts _ (mow_J1_indexOf5 _ (List.mem_of_getElem? h))
  subst hsz
  have hD := hD0.self (sz := s.heap.size)
  generalize hAe : va_A [] s.heap.size = A at hD hp0 hp1 ⊢
  have hA : ∀ q : Nat, s.heap.size ≤ q → A q := fun q h => by rw [← hAe]; exact Or.inr h
  have hS : va_S A s.heap s.heap [] := va_S.rf
  have hP : va_P (dC, dI) vwQ [] s.heap := hP
  have hl := lv_entry ([.ref tv, .int (zI (x1)), .ref tw, .int (zI (x3)), .int 0]) (n := 11) (Nat.le_of_ble_eq_true rfl)
  rw [lg_entry_eq]
  generalize (lg_sl ([.ref tv, .int (zI (x1)), .ref tw, .int (zI (x3)), .int 0]) ++ List.replicate (11 - (lg_sl ([.ref tv, .int (zI (x1)), .ref tw, .int (zI (x3)), .int 0])).length) Slot.unset).toArray = ls at hl ⊢
  have hl : lv_has ls 11 [(0, .ref tv), (1, .int (zI (x1))), (2, .ref tw), (3, .int (zI (x3))), (4, .int 0)] := hl
  obtain ⟨H, hH⟩ : ∃ H, H = s.heap := ⟨_, rfl⟩
  rw [← hH] at hP
  have hS : va_S A s.heap H [] := by rw [hH]; exact hS
  rw [← hH]
  refine zW_cap (fun Q hQ => ?_)
  refine lv_aload_n hx hb dJ1_indexOf_5af95_0 rfl (lv_at hl 2 rfl) ?_
  refine lv_iconst (v := 0) hx hb dJ1_indexOf_5af95_1 (by decide) ?_
  refine va_tb hx hb hp0 hS (zI_in (a := 0) (n := um) (by omega) (by omega) (by omega)) rfl dJ1_indexOf_5af95_2 ?_
  refine lv_topi (fun z ez => ?_)
  obtain rfl : z = zI (chF uf (0)) := ez.trans (chF_z uf (e := 0) (by omega) (by omega))
  have hch := chF_rng uf (0)
  refine lv_istore (lv' := [(5, .int (zI (chF uf (0)))), (0, .ref tv), (1, .int (zI (x1))), (2, .ref tw), (3, .int (zI (x3))), (4, .int 0)]) hx hb dJ1_indexOf_5af95_3 hl (by decide) rfl (fun ls hl => ?_)
  refine lv_iload_n hx hb dJ1_indexOf_5af95_5 rfl (lv_at hl 2 rfl) ?_
  refine lv_iload_n hx hb dJ1_indexOf_5af95_6 rfl (lv_at hl 4 rfl) ?_
  refine lv_isub hx hb dJ1_indexOf_5af95_7 ?_
  refine lv_topi (fun z ez => ?_)
  obtain rfl : z = zI (x1 - x3) := ez.trans (zI_sub (x1) (x3))
  refine lv_istore (lv' := [(6, .int (zI (x1 - x3))), (5, .int (zI (chF uf (0)))), (0, .ref tv), (1, .int (zI (x1))), (2, .ref tw), (3, .int (zI (x3))), (4, .int 0)]) hx hb dJ1_indexOf_5af95_8 hl (by decide) rfl (fun ls hl => ?_)
  refine lv_iload hx hb dJ1_indexOf_5af95_10 (lv_at hl 6 rfl) ?_
  refine lv_istore (lv' := [(7, .int 0), (6, .int (zI (x1 - x3))), (5, .int (zI (chF uf (0)))), (0, .ref tv), (1, .int (zI (x1))), (2, .ref tw), (3, .int (zI (x3))), (4, .int 0)]) hx hb dJ1_indexOf_5af95_12 hl (by decide) rfl (fun ls hl => ?_)
  have key14 : ∀ n14 : Nat, ∀ (d14_7 : Int) (ls : Array Slot) (H : Heap) (locs : List Loc), (0 ≤ d14_7 ∧ d14_7 ≤ 1000003) → ((1000010 - d14_7 : Int).toNat) < n14 → lv_has ls 11 [(0, .ref tv), (1, .int (zI (x1))), (2, .ref tw), (3, .int (zI (x3))), (4, .int 0), (5, .int (zI (chF uf (0)))), (6, .int (zI (x1 - x3))), (7, .int (zI (d14_7)))] → va_P (dC, dI) vwQ [] H → va_D A [] → va_S A s.heap H locs → W p l e (headSpec v_J1_indexOf5 ({ frames := 0, cells := 0, slots := 0, locals := 0 })).room s m ([.ref tv, .int (zI (x1)), .ref tw, .int (zI (x3)), .int 0] : List Value).toArray below meth c H locs 0 0 Q (F0 m 14 ls []) := by
    intro n14
    induction n14 with
    | zero => intro d14_7 ls H locs jd14_7 hm14; exact absurd hm14 (by omega)
    | succ n14 ih14 =>
      intro d14_7 ls H locs jd14_7 hm14 hl hP hD hS
      refine lv_iload hx hb dJ1_indexOf_5af95_14 (lv_at hl 7 rfl) ?_
      refine lv_iload hx hb dJ1_indexOf_5af95_16 (lv_at hl 6 rfl) ?_
      refine lv_icmp_gt (tgt := 119) hx hb dJ1_indexOf_5af95_18 (by decide) (fun b18 => ?_) (fun b18 => ?_)
      · have yb18 : (x1 - x3 : Int) < (d14_7 : Int) := (zI_lt (a := x1 - x3) (b := d14_7) (by omega) (by omega) (by omega) (by omega)).mp b18
        refine lv_iconst (v := (-1)) hx hb dJ1_indexOf_5af95_119 (by decide) ?_
        subst hQ
        refine W.widen (k := 0) (n := 0) (Nat.le_of_ble_eq_true rfl) (Nat.le_of_ble_eq_true rfl) ?_
        exact W.iret (v := (-1)) hx hb hr (fun t ht hW => ⟨⟨(-1), (), rfl, ⟨-1, rfl, (by refine ⟨by omega, fun q9 => ⟨by omega, by omega⟩⟩)⟩, by rw [ht]; exact hP, va_K.moved hW.alike hK, hD⟩, hS.F ht⟩) hS.2.2 dJ1_indexOf_5af95_120
      · have yb18 : ¬ (x1 - x3 : Int) < (d14_7 : Int) := fun q => b18 ((zI_lt (a := x1 - x3) (b := d14_7) (by omega) (by omega) (by omega) (by omega)).mpr q)
        refine lv_aload_n hx hb dJ1_indexOf_5af95_21 rfl (lv_at hl 0 rfl) ?_
        refine lv_iload hx hb dJ1_indexOf_5af95_22 (lv_at hl 7 rfl) ?_
        refine va_tb hx hb hp1 hS (zI_in (a := d14_7) (n := tn) (by omega) (by omega) (by omega)) rfl dJ1_indexOf_5af95_24 ?_
        refine lv_topi (fun z ez => ?_)
        obtain rfl : z = zI (chF tf (d14_7)) := ez.trans (chF_z tf (e := d14_7) (by omega) (by omega))
        have hch := chF_rng tf (d14_7)
        refine lv_iload hx hb dJ1_indexOf_5af95_25 (lv_at hl 5 rfl) ?_
        refine lv_icmp_eq (tgt := 52) hx hb dJ1_indexOf_5af95_27 (by decide) (fun b27 => ?_) (fun b27 => ?_)
        · have yb27 : (chF tf (d14_7) : Int) = (chF uf (0) : Int) := (zI_eq (a := chF tf (d14_7)) (b := chF uf (0)) (by omega) (by omega) (by omega) (by omega)).mp b27
          refine lv_iload hx hb dJ1_indexOf_5af95_52 (lv_at hl 7 rfl) ?_
          refine lv_iload hx hb dJ1_indexOf_5af95_54 (lv_at hl 6 rfl) ?_
          refine lv_icmp_gt (tgt := 113) hx hb dJ1_indexOf_5af95_56 (by decide) (fun b56 => ?_) (fun b56 => ?_)
          · have yb56 : (x1 - x3 : Int) < (d14_7 : Int) := (zI_lt (a := x1 - x3) (b := d14_7) (by omega) (by omega) (by omega) (by omega)).mp b56
            refine lv_iinc (v := zI (d14_7 + 1)) (lv' := [(7, .int (zI (d14_7 + 1))), (0, .ref tv), (1, .int (zI (x1))), (2, .ref tw), (3, .int (zI (x3))), (4, .int 0), (5, .int (zI (chF uf (0)))), (6, .int (zI (x1 - x3)))]) hx hb dJ1_indexOf_5af95_113 hl (k := 7) rfl (zI_add (d14_7) (1)) (by decide) rfl (fun ls hl => ?_)
            refine lv_goto (tgt := 14) hx hb dJ1_indexOf_5af95_116 (by decide) ?_
            exact ih14 (d14_7 + 1) ls H _ (by omega) (by omega) (lv_sub hl [1, 2, 3, 4, 5, 6, 7, 0] rfl) hP hD hS
          · have yb56 : ¬ (x1 - x3 : Int) < (d14_7 : Int) := fun q => b56 ((zI_lt (a := x1 - x3) (b := d14_7) (by omega) (by omega) (by omega) (by omega)).mpr q)
            refine lv_iload hx hb dJ1_indexOf_5af95_59 (lv_at hl 7 rfl) ?_
            refine lv_iconst (v := 1) hx hb dJ1_indexOf_5af95_61 (by decide) ?_
            refine lv_iadd hx hb dJ1_indexOf_5af95_62 ?_
            refine lv_topi (fun z ez => ?_)
            obtain rfl : z = zI (d14_7 + 1) := ez.trans (zI_add (d14_7) (1))
            refine lv_istore (lv' := [(8, .int (zI (d14_7 + 1))), (0, .ref tv), (1, .int (zI (x1))), (2, .ref tw), (3, .int (zI (x3))), (4, .int 0), (5, .int (zI (chF uf (0)))), (6, .int (zI (x1 - x3))), (7, .int (zI (d14_7)))]) hx hb dJ1_indexOf_5af95_63 hl (by decide) rfl (fun ls hl => ?_)
            refine lv_iload hx hb dJ1_indexOf_5af95_65 (lv_at hl 0 rfl) ?_
            refine lv_iload_n hx hb dJ1_indexOf_5af95_67 rfl (lv_at hl 4 rfl) ?_
            refine lv_iadd hx hb dJ1_indexOf_5af95_68 ?_
            refine lv_topi (fun z ez => ?_)
            obtain rfl : z = zI ((d14_7 + 1) + x3) := ez.trans (zI_add (d14_7 + 1) (x3))
            refine lv_iconst (v := 1) hx hb dJ1_indexOf_5af95_69 (by decide) ?_
            refine lv_isub hx hb dJ1_indexOf_5af95_70 ?_
            refine lv_topi (fun z ez => ?_)
            obtain rfl : z = zI (((d14_7 + 1) + x3) - 1) := ez.trans (zI_sub ((d14_7 + 1) + x3) (1))
            refine lv_istore (lv' := [(9, .int (zI (((d14_7 + 1) + x3) - 1))), (8, .int (zI (d14_7 + 1))), (0, .ref tv), (1, .int (zI (x1))), (2, .ref tw), (3, .int (zI (x3))), (4, .int 0), (5, .int (zI (chF uf (0)))), (6, .int (zI (x1 - x3))), (7, .int (zI (d14_7)))]) hx hb dJ1_indexOf_5af95_71 hl (by decide) rfl (fun ls hl => ?_)
            refine lv_iconst (v := 1) hx hb dJ1_indexOf_5af95_73 (by decide) ?_
            refine lv_istore (lv' := [(10, .int 1), (9, .int (zI (((d14_7 + 1) + x3) - 1))), (8, .int (zI (d14_7 + 1))), (0, .ref tv), (1, .int (zI (x1))), (2, .ref tw), (3, .int (zI (x3))), (4, .int 0), (5, .int (zI (chF uf (0)))), (6, .int (zI (x1 - x3))), (7, .int (zI (d14_7)))]) hx hb dJ1_indexOf_5af95_74 hl (by decide) rfl (fun ls hl => ?_)
            have key76 : ∀ n76 : Nat, ∀ (d76_10 : Int) (d76_8 : Int) (ls : Array Slot) (H : Heap) (locs : List Loc), (1 ≤ d76_10) → (1 ≤ d76_8) → (d76_10 = d76_8 - (d14_7) ∧ d76_8 ≤ ((d14_7 + 1) + x3) - 1) → (((tn : Int) + 1 - d76_8 : Int).toNat) < n76 → lv_has ls 11 [(0, .ref tv), (1, .int (zI (x1))), (2, .ref tw), (3, .int (zI (x3))), (4, .int 0), (5, .int (zI (chF uf (0)))), (6, .int (zI (x1 - x3))), (7, .int (zI (d14_7))), (8, .int (zI (d76_8))), (9, .int (zI (((d14_7 + 1) + x3) - 1))), (10, .int (zI (d76_10)))] → va_P (dC, dI) vwQ [] H → va_D A [] → va_S A s.heap H locs → W p l e (headSpec v_J1_indexOf5 ({ frames := 0, cells := 0, slots := 0, locals := 0 })).room s m ([.ref tv, .int (zI (x1)), .ref tw, .int (zI (x3)), .int 0] : List Value).toArray below meth c H locs 0 0 Q (F0 m 76 ls []) := by
              intro n76
              induction n76 with
              | zero => intro d76_10 d76_8 ls H locs jd76_10 jd76_8 j76 hm76; exact absurd hm76 (by omega)
              | succ n76 ih76 =>
                intro d76_10 d76_8 ls H locs jd76_10 jd76_8 j76 hm76 hl hP hD hS
                refine lv_iload hx hb dJ1_indexOf_5af95_76 (lv_at hl 8 rfl) ?_
                refine lv_iload hx hb dJ1_indexOf_5af95_78 (lv_at hl 9 rfl) ?_
                refine lv_icmp_ge (tgt := 103) hx hb dJ1_indexOf_5af95_80 (by decide) (fun b80 => ?_) (fun b80 => ?_)
                · have yb80 : (((d14_7 + 1) + x3) - 1 : Int) ≤ (d76_8 : Int) := (zI_le (a := ((d14_7 + 1) + x3) - 1) (b := d76_8) (by omega) (by omega) (by omega) (by omega)).mp b80
                  refine lv_iload hx hb dJ1_indexOf_5af95_103 (lv_at hl 8 rfl) ?_
                  refine lv_iload hx hb dJ1_indexOf_5af95_105 (lv_at hl 9 rfl) ?_
                  refine lv_icmp_ne (tgt := 113) hx hb dJ1_indexOf_5af95_107 (by decide) (fun b107 => ?_) (fun b107 => ?_)
                  · have yb107 : ¬ (d76_8 : Int) = (((d14_7 + 1) + x3) - 1 : Int) := fun q => b107 ((zI_eq (a := d76_8) (b := ((d14_7 + 1) + x3) - 1) (by omega) (by omega) (by omega) (by omega)).mpr q)
                    refine lv_iinc (v := zI (d14_7 + 1)) (lv' := [(7, .int (zI (d14_7 + 1))), (0, .ref tv), (1, .int (zI (x1))), (2, .ref tw), (3, .int (zI (x3))), (4, .int 0), (5, .int (zI (chF uf (0)))), (6, .int (zI (x1 - x3))), (8, .int (zI (d76_8))), (9, .int (zI (((d14_7 + 1) + x3) - 1))), (10, .int (zI (d76_10)))]) hx hb dJ1_indexOf_5af95_113 hl (k := 7) rfl (zI_add (d14_7) (1)) (by decide) rfl (fun ls hl => ?_)
                    refine lv_goto (tgt := 14) hx hb dJ1_indexOf_5af95_116 (by decide) ?_
                    exact ih14 (d14_7 + 1) ls H _ (by omega) (by omega) (lv_sub hl [1, 2, 3, 4, 5, 6, 7, 0] rfl) hP hD hS
                  · have yb107 : (d76_8 : Int) = (((d14_7 + 1) + x3) - 1 : Int) := (zI_eq (a := d76_8) (b := ((d14_7 + 1) + x3) - 1) (by omega) (by omega) (by omega) (by omega)).mp b107
                    refine lv_iload hx hb dJ1_indexOf_5af95_110 (lv_at hl 7 rfl) ?_
                    subst hQ
                    refine W.widen (k := 0) (n := 0) (Nat.le_of_ble_eq_true rfl) (Nat.le_of_ble_eq_true rfl) ?_
                    exact W.iret (v := (zI (d14_7))) hx hb hr (fun t ht hW => ⟨⟨(zI (d14_7)), (), rfl, ⟨d14_7, rfl, (by refine ⟨by omega, fun q9 => ⟨by omega, by omega⟩⟩)⟩, by rw [ht]; exact hP, va_K.moved hW.alike hK, hD⟩, hS.F ht⟩) hS.2.2 dJ1_indexOf_5af95_112
                · have yb80 : ¬ (((d14_7 + 1) + x3) - 1 : Int) ≤ (d76_8 : Int) := fun q => b80 ((zI_le (a := ((d14_7 + 1) + x3) - 1) (b := d76_8) (by omega) (by omega) (by omega) (by omega)).mpr q)
                  refine lv_aload_n hx hb dJ1_indexOf_5af95_83 rfl (lv_at hl 0 rfl) ?_
                  refine lv_iload hx hb dJ1_indexOf_5af95_84 (lv_at hl 8 rfl) ?_
                  refine va_tb hx hb hp1 hS (zI_in (a := d76_8) (n := tn) (by omega) (by omega) (by omega)) rfl dJ1_indexOf_5af95_86 ?_
                  refine lv_topi (fun z ez => ?_)
                  obtain rfl : z = zI (chF tf (d76_8)) := ez.trans (chF_z tf (e := d76_8) (by omega) (by omega))
                  have hch := chF_rng tf (d76_8)
                  refine lv_aload_n hx hb dJ1_indexOf_5af95_87 rfl (lv_at hl 2 rfl) ?_
                  refine lv_iload hx hb dJ1_indexOf_5af95_88 (lv_at hl 10 rfl) ?_
                  refine va_tb hx hb hp0 hS (zI_in (a := d76_10) (n := um) (by omega) (by omega) (by omega)) rfl dJ1_indexOf_5af95_90 ?_
                  refine lv_topi (fun z ez => ?_)
                  obtain rfl : z = zI (chF uf (d76_10)) := ez.trans (chF_z uf (e := d76_10) (by omega) (by omega))
                  have hch := chF_rng uf (d76_10)
                  refine lv_icmp_ne (tgt := 103) hx hb dJ1_indexOf_5af95_91 (by decide) (fun b91 => ?_) (fun b91 => ?_)
                  · have yb91 : ¬ (chF tf (d76_8) : Int) = (chF uf (d76_10) : Int) := fun q => b91 ((zI_eq (a := chF tf (d76_8)) (b := chF uf (d76_10)) (by omega) (by omega) (by omega) (by omega)).mpr q)
                    refine lv_iload hx hb dJ1_indexOf_5af95_103 (lv_at hl 8 rfl) ?_
                    refine lv_iload hx hb dJ1_indexOf_5af95_105 (lv_at hl 9 rfl) ?_
                    refine lv_icmp_ne (tgt := 113) hx hb dJ1_indexOf_5af95_107 (by decide) (fun b107 => ?_) (fun b107 => ?_)
                    · have yb107 : ¬ (d76_8 : Int) = (((d14_7 + 1) + x3) - 1 : Int) := fun q => b107 ((zI_eq (a := d76_8) (b := ((d14_7 + 1) + x3) - 1) (by omega) (by omega) (by omega) (by omega)).mpr q)
                      refine lv_iinc (v := zI (d14_7 + 1)) (lv' := [(7, .int (zI (d14_7 + 1))), (0, .ref tv), (1, .int (zI (x1))), (2, .ref tw), (3, .int (zI (x3))), (4, .int 0), (5, .int (zI (chF uf (0)))), (6, .int (zI (x1 - x3))), (8, .int (zI (d76_8))), (9, .int (zI (((d14_7 + 1) + x3) - 1))), (10, .int (zI (d76_10)))]) hx hb dJ1_indexOf_5af95_113 hl (k := 7) rfl (zI_add (d14_7) (1)) (by decide) rfl (fun ls hl => ?_)
                      refine lv_goto (tgt := 14) hx hb dJ1_indexOf_5af95_116 (by decide) ?_
                      exact ih14 (d14_7 + 1) ls H _ (by omega) (by omega) (lv_sub hl [1, 2, 3, 4, 5, 6, 7, 0] rfl) hP hD hS
                    · have yb107 : (d76_8 : Int) = (((d14_7 + 1) + x3) - 1 : Int) := (zI_eq (a := d76_8) (b := ((d14_7 + 1) + x3) - 1) (by omega) (by omega) (by omega) (by omega)).mp b107
                      refine lv_iload hx hb dJ1_indexOf_5af95_110 (lv_at hl 7 rfl) ?_
                      subst hQ
                      refine W.widen (k := 0) (n := 0) (Nat.le_of_ble_eq_true rfl) (Nat.le_of_ble_eq_true rfl) ?_
                      exact W.iret (v := (zI (d14_7))) hx hb hr (fun t ht hW => ⟨⟨(zI (d14_7)), (), rfl, ⟨d14_7, rfl, (by refine ⟨by omega, fun q9 => ⟨by omega, by omega⟩⟩)⟩, by rw [ht]; exact hP, va_K.moved hW.alike hK, hD⟩, hS.F ht⟩) hS.2.2 dJ1_indexOf_5af95_112
                  · have yb91 : (chF tf (d76_8) : Int) = (chF uf (d76_10) : Int) := (zI_eq (a := chF tf (d76_8)) (b := chF uf (d76_10)) (by omega) (by omega) (by omega) (by omega)).mp b91
                    refine lv_iinc (v := zI (d76_8 + 1)) (lv' := [(8, .int (zI (d76_8 + 1))), (0, .ref tv), (1, .int (zI (x1))), (2, .ref tw), (3, .int (zI (x3))), (4, .int 0), (5, .int (zI (chF uf (0)))), (6, .int (zI (x1 - x3))), (7, .int (zI (d14_7))), (9, .int (zI (((d14_7 + 1) + x3) - 1))), (10, .int (zI (d76_10)))]) hx hb dJ1_indexOf_5af95_94 hl (k := 8) rfl (zI_add (d76_8) (1)) (by decide) rfl (fun ls hl => ?_)
                    refine lv_iinc (v := zI (d76_10 + 1)) (lv' := [(10, .int (zI (d76_10 + 1))), (8, .int (zI (d76_8 + 1))), (0, .ref tv), (1, .int (zI (x1))), (2, .ref tw), (3, .int (zI (x3))), (4, .int 0), (5, .int (zI (chF uf (0)))), (6, .int (zI (x1 - x3))), (7, .int (zI (d14_7))), (9, .int (zI (((d14_7 + 1) + x3) - 1)))]) hx hb dJ1_indexOf_5af95_97 hl (k := 10) rfl (zI_add (d76_10) (1)) (by decide) rfl (fun ls hl => ?_)
                    refine lv_goto (tgt := 76) hx hb dJ1_indexOf_5af95_100 (by decide) ?_
                    exact ih76 (d76_10 + 1) (d76_8 + 1) ls H _ (by omega) (by omega) (by omega) (by omega) (lv_sub hl [2, 3, 4, 5, 6, 7, 8, 9, 1, 10, 0] rfl) hP hD hS
            exact key76 (((tn : Int) + 1 - d14_7 + 1 : Int).toNat + 1) 1 (d14_7 + 1) ls H _ (by omega) (by omega) (by omega) (by omega) (lv_sub hl [3, 4, 5, 6, 7, 8, 9, 10, 2, 1, 0] rfl) hP hD hS
        · have yb27 : ¬ (chF tf (d14_7) : Int) = (chF uf (0) : Int) := fun q => b27 ((zI_eq (a := chF tf (d14_7)) (b := chF uf (0)) (by omega) (by omega) (by omega) (by omega)).mpr q)
          have key30 : ∀ n30 : Nat, ∀ (d30_7 : Int) (ls : Array Slot) (H : Heap) (locs : List Loc), (d14_7 ≤ d30_7 ∧ d30_7 ≤ x1 - x3) → ((1000010 - d30_7 : Int).toNat) < n30 → lv_has ls 11 [(0, .ref tv), (1, .int (zI (x1))), (2, .ref tw), (3, .int (zI (x3))), (4, .int 0), (5, .int (zI (chF uf (0)))), (6, .int (zI (x1 - x3))), (7, .int (zI (d30_7)))] → va_P (dC, dI) vwQ [] H → va_D A [] → va_S A s.heap H locs → W p l e (headSpec v_J1_indexOf5 ({ frames := 0, cells := 0, slots := 0, locals := 0 })).room s m ([.ref tv, .int (zI (x1)), .ref tw, .int (zI (x3)), .int 0] : List Value).toArray below meth c H locs 0 0 Q (F0 m 30 ls []) := by
            intro n30
            induction n30 with
            | zero => intro d30_7 ls H locs jd30_7 hm30; exact absurd hm30 (by omega)
            | succ n30 ih30 =>
              intro d30_7 ls H locs jd30_7 hm30 hl hP hD hS
              refine lv_iinc (v := zI (d30_7 + 1)) (lv' := [(7, .int (zI (d30_7 + 1))), (0, .ref tv), (1, .int (zI (x1))), (2, .ref tw), (3, .int (zI (x3))), (4, .int 0), (5, .int (zI (chF uf (0)))), (6, .int (zI (x1 - x3)))]) hx hb dJ1_indexOf_5af95_30 hl (k := 7) rfl (zI_add (d30_7) (1)) (by decide) rfl (fun ls hl => ?_)
              refine lv_iload hx hb dJ1_indexOf_5af95_33 (lv_at hl 0 rfl) ?_
              refine lv_iload hx hb dJ1_indexOf_5af95_35 (lv_at hl 7 rfl) ?_
              refine lv_icmp_gt (tgt := 52) hx hb dJ1_indexOf_5af95_37 (by decide) (fun b37 => ?_) (fun b37 => ?_)
              · have yb37 : (x1 - x3 : Int) < (d30_7 + 1 : Int) := (zI_lt (a := x1 - x3) (b := d30_7 + 1) (by omega) (by omega) (by omega) (by omega)).mp b37
                refine lv_iload hx hb dJ1_indexOf_5af95_52 (lv_at hl 0 rfl) ?_
                refine lv_iload hx hb dJ1_indexOf_5af95_54 (lv_at hl 7 rfl) ?_
                refine lv_icmp_gt (tgt := 113) hx hb dJ1_indexOf_5af95_56 (by decide) (fun b56 => ?_) (fun b56 => ?_)
                · have yb56 : (x1 - x3 : Int) < (d30_7 + 1 : Int) := (zI_lt (a := x1 - x3) (b := d30_7 + 1) (by omega) (by omega) (by omega) (by omega)).mp b56
                  refine lv_iinc (v := zI (d30_7 + 1 + 1)) (lv' := [(7, .int (zI (d30_7 + 1 + 1))), (0, .ref tv), (1, .int (zI (x1))), (2, .ref tw), (3, .int (zI (x3))), (4, .int 0), (5, .int (zI (chF uf (0)))), (6, .int (zI (x1 - x3)))]) hx hb dJ1_indexOf_5af95_113 hl (k := 0) rfl (zI_add (d30_7 + 1) (1)) (by decide) rfl (fun ls hl => ?_)
                  refine lv_goto (tgt := 14) hx hb dJ1_indexOf_5af95_116 (by decide) ?_
                  exact ih14 (d30_7 + 1 + 1) ls H _ (by omega) (by omega) (lv_sub hl [1, 2, 3, 4, 5, 6, 7, 0] rfl) hP hD hS
                · have yb56 : ¬ (x1 - x3 : Int) < (d30_7 + 1 : Int) := fun q => b56 ((zI_lt (a := x1 - x3) (b := d30_7 + 1) (by omega) (by omega) (by omega) (by omega)).mpr q)
                  refine lv_iload hx hb dJ1_indexOf_5af95_59 (lv_at hl 0 rfl) ?_
                  refine lv_iconst (v := 1) hx hb dJ1_indexOf_5af95_61 (by decide) ?_
                  refine lv_iadd hx hb dJ1_indexOf_5af95_62 ?_
                  refine lv_topi (fun z ez => ?_)
                  obtain rfl : z = zI ((d30_7 + 1) + 1) := ez.trans (zI_add (d30_7 + 1) (1))
                  refine lv_istore (lv' := [(8, .int (zI ((d30_7 + 1) + 1))), (7, .int (zI (d30_7 + 1))), (0, .ref tv), (1, .int (zI (x1))), (2, .ref tw), (3, .int (zI (x3))), (4, .int 0), (5, .int (zI (chF uf (0)))), (6, .int (zI (x1 - x3)))]) hx hb dJ1_indexOf_5af95_63 hl (by decide) rfl (fun ls hl => ?_)
                  refine lv_iload hx hb dJ1_indexOf_5af95_65 (lv_at hl 0 rfl) ?_
                  refine lv_iload_n hx hb dJ1_indexOf_5af95_67 rfl (lv_at hl 5 rfl) ?_
                  refine lv_iadd hx hb dJ1_indexOf_5af95_68 ?_
                  refine lv_topi (fun z ez => ?_)
                  obtain rfl : z = zI (((d30_7 + 1) + 1) + x3) := ez.trans (zI_add ((d30_7 + 1) + 1) (x3))
                  refine lv_iconst (v := 1) hx hb dJ1_indexOf_5af95_69 (by decide) ?_
                  refine lv_isub hx hb dJ1_indexOf_5af95_70 ?_
                  refine lv_topi (fun z ez => ?_)
                  obtain rfl : z = zI ((((d30_7 + 1) + 1) + x3) - 1) := ez.trans (zI_sub (((d30_7 + 1) + 1) + x3) (1))
                  refine lv_istore (lv' := [(9, .int (zI ((((d30_7 + 1) + 1) + x3) - 1))), (8, .int (zI ((d30_7 + 1) + 1))), (7, .int (zI (d30_7 + 1))), (0, .ref tv), (1, .int (zI (x1))), (2, .ref tw), (3, .int (zI (x3))), (4, .int 0), (5, .int (zI (chF uf (0)))), (6, .int (zI (x1 - x3)))]) hx hb dJ1_indexOf_5af95_71 hl (by decide) rfl (fun ls hl => ?_)
                  refine lv_iconst (v := 1) hx hb dJ1_indexOf_5af95_73 (by decide) ?_
                  refine lv_istore (lv' := [(10, .int 1), (9, .int (zI ((((d30_7 + 1) + 1) + x3) - 1))), (8, .int (zI ((d30_7 + 1) + 1))), (7, .int (zI (d30_7 + 1))), (0, .ref tv), (1, .int (zI (x1))), (2, .ref tw), (3, .int (zI (x3))), (4, .int 0), (5, .int (zI (chF uf (0)))), (6, .int (zI (x1 - x3)))]) hx hb dJ1_indexOf_5af95_74 hl (by decide) rfl (fun ls hl => ?_)
                  have key76 : ∀ n76 : Nat, ∀ (d76_10 : Int) (d76_8 : Int) (ls : Array Slot) (H : Heap) (locs : List Loc), (1 ≤ d76_10) → (1 ≤ d76_8) → (d76_10 = d76_8 - (d30_7 + 1) ∧ d76_8 ≤ (((d30_7 + 1) + 1) + x3) - 1) → (((tn : Int) + 1 - d76_8 : Int).toNat) < n76 → lv_has ls 11 [(0, .ref tv), (1, .int (zI (x1))), (2, .ref tw), (3, .int (zI (x3))), (4, .int 0), (5, .int (zI (chF uf (0)))), (6, .int (zI (x1 - x3))), (7, .int (zI (d30_7 + 1))), (8, .int (zI (d76_8))), (9, .int (zI ((((d30_7 + 1) + 1) + x3) - 1))), (10, .int (zI (d76_10)))] → va_P (dC, dI) vwQ [] H → va_D A [] → va_S A s.heap H locs → W p l e (headSpec v_J1_indexOf5 ({ frames := 0, cells := 0, slots := 0, locals := 0 })).room s m ([.ref tv, .int (zI (x1)), .ref tw, .int (zI (x3)), .int 0] : List Value).toArray below meth c H locs 0 0 Q (F0 m 76 ls []) := by
                    intro n76
                    induction n76 with
                    | zero => intro d76_10 d76_8 ls H locs jd76_10 jd76_8 j76 hm76; exact absurd hm76 (by omega)
                    | succ n76 ih76 =>
                      intro d76_10 d76_8 ls H locs jd76_10 jd76_8 j76 hm76 hl hP hD hS
                      refine lv_iload hx hb dJ1_indexOf_5af95_76 (lv_at hl 8 rfl) ?_
                      refine lv_iload hx hb dJ1_indexOf_5af95_78 (lv_at hl 9 rfl) ?_
                      refine lv_icmp_ge (tgt := 103) hx hb dJ1_indexOf_5af95_80 (by decide) (fun b80 => ?_) (fun b80 => ?_)
                      · have yb80 : ((((d30_7 + 1) + 1) + x3) - 1 : Int) ≤ (d76_8 : Int) := (zI_le (a := (((d30_7 + 1) + 1) + x3) - 1) (b := d76_8) (by omega) (by omega) (by omega) (by omega)).mp b80
                        refine lv_iload hx hb dJ1_indexOf_5af95_103 (lv_at hl 8 rfl) ?_
                        refine lv_iload hx hb dJ1_indexOf_5af95_105 (lv_at hl 9 rfl) ?_
                        refine lv_icmp_ne (tgt := 113) hx hb dJ1_indexOf_5af95_107 (by decide) (fun b107 => ?_) (fun b107 => ?_)
                        · have yb107 : ¬ (d76_8 : Int) = ((((d30_7 + 1) + 1) + x3) - 1 : Int) := fun q => b107 ((zI_eq (a := d76_8) (b := (((d30_7 + 1) + 1) + x3) - 1) (by omega) (by omega) (by omega) (by omega)).mpr q)
                          refine lv_iinc (v := zI (d30_7 + 1 + 1)) (lv' := [(7, .int (zI (d30_7 + 1 + 1))), (0, .ref tv), (1, .int (zI (x1))), (2, .ref tw), (3, .int (zI (x3))), (4, .int 0), (5, .int (zI (chF uf (0)))), (6, .int (zI (x1 - x3))), (8, .int (zI (d76_8))), (9, .int (zI ((((d30_7 + 1) + 1) + x3) - 1))), (10, .int (zI (d76_10)))]) hx hb dJ1_indexOf_5af95_113 hl (k := 7) rfl (zI_add (d30_7 + 1) (1)) (by decide) rfl (fun ls hl => ?_)
                          refine lv_goto (tgt := 14) hx hb dJ1_indexOf_5af95_116 (by decide) ?_
                          exact ih14 (d30_7 + 1 + 1) ls H _ (by omega) (by omega) (lv_sub hl [1, 2, 3, 4, 5, 6, 7, 0] rfl) hP hD hS
                        · have yb107 : (d76_8 : Int) = ((((d30_7 + 1) + 1) + x3) - 1 : Int) := (zI_eq (a := d76_8) (b := (((d30_7 + 1) + 1) + x3) - 1) (by omega) (by omega) (by omega) (by omega)).mp b107
                          refine lv_iload hx hb dJ1_indexOf_5af95_110 (lv_at hl 7 rfl) ?_
                          subst hQ
                          refine W.widen (k := 0) (n := 0) (Nat.le_of_ble_eq_true rfl) (Nat.le_of_ble_eq_true rfl) ?_
                          exact W.iret (v := (zI (d30_7 + 1))) hx hb hr (fun t ht hW => ⟨⟨(zI (d30_7 + 1)), (), rfl, ⟨d30_7 + 1, rfl, (by refine ⟨by omega, fun q9 => ⟨by omega, by omega⟩⟩)⟩, by rw [ht]; exact hP, va_K.moved hW.alike hK, hD⟩, hS.F ht⟩) hS.2.2 dJ1_indexOf_5af95_112
                      · have yb80 : ¬ ((((d30_7 + 1) + 1) + x3) - 1 : Int) ≤ (d76_8 : Int) := fun q => b80 ((zI_le (a := (((d30_7 + 1) + 1) + x3) - 1) (b := d76_8) (by omega) (by omega) (by omega) (by omega)).mpr q)
                        refine lv_aload_n hx hb dJ1_indexOf_5af95_83 rfl (lv_at hl 0 rfl) ?_
                        refine lv_iload hx hb dJ1_indexOf_5af95_84 (lv_at hl 8 rfl) ?_
                        refine va_tb hx hb hp1 hS (zI_in (a := d76_8) (n := tn) (by omega) (by omega) (by omega)) rfl dJ1_indexOf_5af95_86 ?_
                        refine lv_topi (fun z ez => ?_)
                        obtain rfl : z = zI (chF tf (d76_8)) := ez.trans (chF_z tf (e := d76_8) (by omega) (by omega))
                        have hch := chF_rng tf (d76_8)
                        refine lv_aload_n hx hb dJ1_indexOf_5af95_87 rfl (lv_at hl 2 rfl) ?_
                        refine lv_iload hx hb dJ1_indexOf_5af95_88 (lv_at hl 10 rfl) ?_
                        refine va_tb hx hb hp0 hS (zI_in (a := d76_10) (n := um) (by omega) (by omega) (by omega)) rfl dJ1_indexOf_5af95_90 ?_
                        refine lv_topi (fun z ez => ?_)
                        obtain rfl : z = zI (chF uf (d76_10)) := ez.trans (chF_z uf (e := d76_10) (by omega) (by omega))
                        have hch := chF_rng uf (d76_10)
                        refine lv_icmp_ne (tgt := 103) hx hb dJ1_indexOf_5af95_91 (by decide) (fun b91 => ?_) (fun b91 => ?_)
                        · have yb91 : ¬ (chF tf (d76_8) : Int) = (chF uf (d76_10) : Int) := fun q => b91 ((zI_eq (a := chF tf (d76_8)) (b := chF uf (d76_10)) (by omega) (by omega) (by omega) (by omega)).mpr q)
                          refine lv_iload hx hb dJ1_indexOf_5af95_103 (lv_at hl 8 rfl) ?_
                          refine lv_iload hx hb dJ1_indexOf_5af95_105 (lv_at hl 9 rfl) ?_
                          refine lv_icmp_ne (tgt := 113) hx hb dJ1_indexOf_5af95_107 (by decide) (fun b107 => ?_) (fun b107 => ?_)
                          · have yb107 : ¬ (d76_8 : Int) = ((((d30_7 + 1) + 1) + x3) - 1 : Int) := fun q => b107 ((zI_eq (a := d76_8) (b := (((d30_7 + 1) + 1) + x3) - 1) (by omega) (by omega) (by omega) (by omega)).mpr q)
                            refine lv_iinc (v := zI (d30_7 + 1 + 1)) (lv' := [(7, .int (zI (d30_7 + 1 + 1))), (0, .ref tv), (1, .int (zI (x1))), (2, .ref tw), (3, .int (zI (x3))), (4, .int 0), (5, .int (zI (chF uf (0)))), (6, .int (zI (x1 - x3))), (8, .int (zI (d76_8))), (9, .int (zI ((((d30_7 + 1) + 1) + x3) - 1))), (10, .int (zI (d76_10)))]) hx hb dJ1_indexOf_5af95_113 hl (k := 7) rfl (zI_add (d30_7 + 1) (1)) (by decide) rfl (fun ls hl => ?_)
                            refine lv_goto (tgt := 14) hx hb dJ1_indexOf_5af95_116 (by decide) ?_
                            exact ih14 (d30_7 + 1 + 1) ls H _ (by omega) (by omega) (lv_sub hl [1, 2, 3, 4, 5, 6, 7, 0] rfl) hP hD hS
                          · have yb107 : (d76_8 : Int) = ((((d30_7 + 1) + 1) + x3) - 1 : Int) := (zI_eq (a := d76_8) (b := (((d30_7 + 1) + 1) + x3) - 1) (by omega) (by omega) (by omega) (by omega)).mp b107
                            refine lv_iload hx hb dJ1_indexOf_5af95_110 (lv_at hl 7 rfl) ?_
                            subst hQ
                            refine W.widen (k := 0) (n := 0) (Nat.le_of_ble_eq_true rfl) (Nat.le_of_ble_eq_true rfl) ?_
                            exact W.iret (v := (zI (d30_7 + 1))) hx hb hr (fun t ht hW => ⟨⟨(zI (d30_7 + 1)), (), rfl, ⟨d30_7 + 1, rfl, (by refine ⟨by omega, fun q9 => ⟨by omega, by omega⟩⟩)⟩, by rw [ht]; exact hP, va_K.moved hW.alike hK, hD⟩, hS.F ht⟩) hS.2.2 dJ1_indexOf_5af95_112
                        · have yb91 : (chF tf (d76_8) : Int) = (chF uf (d76_10) : Int) := (zI_eq (a := chF tf (d76_8)) (b := chF uf (d76_10)) (by omega) (by omega) (by omega) (by omega)).mp b91
                          refine lv_iinc (v := zI (d76_8 + 1)) (lv' := [(8, .int (zI (d76_8 + 1))), (0, .ref tv), (1, .int (zI (x1))), (2, .ref tw), (3, .int (zI (x3))), (4, .int 0), (5, .int (zI (chF uf (0)))), (6, .int (zI (x1 - x3))), (7, .int (zI (d30_7 + 1))), (9, .int (zI ((((d30_7 + 1) + 1) + x3) - 1))), (10, .int (zI (d76_10)))]) hx hb dJ1_indexOf_5af95_94 hl (k := 8) rfl (zI_add (d76_8) (1)) (by decide) rfl (fun ls hl => ?_)
                          refine lv_iinc (v := zI (d76_10 + 1)) (lv' := [(10, .int (zI (d76_10 + 1))), (8, .int (zI (d76_8 + 1))), (0, .ref tv), (1, .int (zI (x1))), (2, .ref tw), (3, .int (zI (x3))), (4, .int 0), (5, .int (zI (chF uf (0)))), (6, .int (zI (x1 - x3))), (7, .int (zI (d30_7 + 1))), (9, .int (zI ((((d30_7 + 1) + 1) + x3) - 1)))]) hx hb dJ1_indexOf_5af95_97 hl (k := 10) rfl (zI_add (d76_10) (1)) (by decide) rfl (fun ls hl => ?_)
                          refine lv_goto (tgt := 76) hx hb dJ1_indexOf_5af95_100 (by decide) ?_
                          exact ih76 (d76_10 + 1) (d76_8 + 1) ls H _ (by omega) (by omega) (by omega) (by omega) (lv_sub hl [2, 3, 4, 5, 6, 7, 8, 9, 1, 10, 0] rfl) hP hD hS
                  exact key76 (((tn : Int) + 1 - (d30_7 + 1) + 1 : Int).toNat + 1) 1 ((d30_7 + 1) + 1) ls H _ (by omega) (by omega) (by omega) (by omega) (lv_sub hl [4, 5, 6, 7, 8, 9, 10, 3, 2, 1, 0] rfl) hP hD hS
              · have yb37 : ¬ (x1 - x3 : Int) < (d30_7 + 1 : Int) := fun q => b37 ((zI_lt (a := x1 - x3) (b := d30_7 + 1) (by omega) (by omega) (by omega) (by omega)).mpr q)
                refine lv_aload_n hx hb dJ1_indexOf_5af95_40 rfl (lv_at hl 1 rfl) ?_
                refine lv_iload hx hb dJ1_indexOf_5af95_41 (lv_at hl 0 rfl) ?_
                refine va_tb hx hb hp1 hS (zI_in (a := d30_7 + 1) (n := tn) (by omega) (by omega) (by omega)) rfl dJ1_indexOf_5af95_43 ?_
                refine lv_topi (fun z ez => ?_)
                obtain rfl : z = zI (chF tf (d30_7 + 1)) := ez.trans (chF_z tf (e := d30_7 + 1) (by omega) (by omega))
                have hch := chF_rng tf (d30_7 + 1)
                refine lv_iload hx hb dJ1_indexOf_5af95_44 (lv_at hl 6 rfl) ?_
                refine lv_icmp_eq (tgt := 52) hx hb dJ1_indexOf_5af95_46 (by decide) (fun b46 => ?_) (fun b46 => ?_)
                · have yb46 : (chF tf (d30_7 + 1) : Int) = (chF uf (0) : Int) := (zI_eq (a := chF tf (d30_7 + 1)) (b := chF uf (0)) (by omega) (by omega) (by omega) (by omega)).mp b46
                  refine lv_iload hx hb dJ1_indexOf_5af95_52 (lv_at hl 0 rfl) ?_
                  refine lv_iload hx hb dJ1_indexOf_5af95_54 (lv_at hl 7 rfl) ?_
                  refine lv_icmp_gt (tgt := 113) hx hb dJ1_indexOf_5af95_56 (by decide) (fun b56 => ?_) (fun b56 => ?_)
                  · have yb56 : (x1 - x3 : Int) < (d30_7 + 1 : Int) := (zI_lt (a := x1 - x3) (b := d30_7 + 1) (by omega) (by omega) (by omega) (by omega)).mp b56
                    refine lv_iinc (v := zI (d30_7 + 1 + 1)) (lv' := [(7, .int (zI (d30_7 + 1 + 1))), (0, .ref tv), (1, .int (zI (x1))), (2, .ref tw), (3, .int (zI (x3))), (4, .int 0), (5, .int (zI (chF uf (0)))), (6, .int (zI (x1 - x3)))]) hx hb dJ1_indexOf_5af95_113 hl (k := 0) rfl (zI_add (d30_7 + 1) (1)) (by decide) rfl (fun ls hl => ?_)
                    refine lv_goto (tgt := 14) hx hb dJ1_indexOf_5af95_116 (by decide) ?_
                    exact ih14 (d30_7 + 1 + 1) ls H _ (by omega) (by omega) (lv_sub hl [1, 2, 3, 4, 5, 6, 7, 0] rfl) hP hD hS
                  · have yb56 : ¬ (x1 - x3 : Int) < (d30_7 + 1 : Int) := fun q => b56 ((zI_lt (a := x1 - x3) (b := d30_7 + 1) (by omega) (by omega) (by omega) (by omega)).mpr q)
                    refine lv_iload hx hb dJ1_indexOf_5af95_59 (lv_at hl 0 rfl) ?_
                    refine lv_iconst (v := 1) hx hb dJ1_indexOf_5af95_61 (by decide) ?_
                    refine lv_iadd hx hb dJ1_indexOf_5af95_62 ?_
                    refine lv_topi (fun z ez => ?_)
                    obtain rfl : z = zI ((d30_7 + 1) + 1) := ez.trans (zI_add (d30_7 + 1) (1))
                    refine lv_istore (lv' := [(8, .int (zI ((d30_7 + 1) + 1))), (7, .int (zI (d30_7 + 1))), (0, .ref tv), (1, .int (zI (x1))), (2, .ref tw), (3, .int (zI (x3))), (4, .int 0), (5, .int (zI (chF uf (0)))), (6, .int (zI (x1 - x3)))]) hx hb dJ1_indexOf_5af95_63 hl (by decide) rfl (fun ls hl => ?_)
                    refine lv_iload hx hb dJ1_indexOf_5af95_65 (lv_at hl 0 rfl) ?_
                    refine lv_iload_n hx hb dJ1_indexOf_5af95_67 rfl (lv_at hl 5 rfl) ?_
                    refine lv_iadd hx hb dJ1_indexOf_5af95_68 ?_
                    refine lv_topi (fun z ez => ?_)
                    obtain rfl : z = zI (((d30_7 + 1) + 1) + x3) := ez.trans (zI_add ((d30_7 + 1) + 1) (x3))
                    refine lv_iconst (v := 1) hx hb dJ1_indexOf_5af95_69 (by decide) ?_
                    refine lv_isub hx hb dJ1_indexOf_5af95_70 ?_
                    refine lv_topi (fun z ez => ?_)
                    obtain rfl : z = zI ((((d30_7 + 1) + 1) + x3) - 1) := ez.trans (zI_sub (((d30_7 + 1) + 1) + x3) (1))
                    refine lv_istore (lv' := [(9, .int (zI ((((d30_7 + 1) + 1) + x3) - 1))), (8, .int (zI ((d30_7 + 1) + 1))), (7, .int (zI (d30_7 + 1))), (0, .ref tv), (1, .int (zI (x1))), (2, .ref tw), (3, .int (zI (x3))), (4, .int 0), (5, .int (zI (chF uf (0)))), (6, .int (zI (x1 - x3)))]) hx hb dJ1_indexOf_5af95_71 hl (by decide) rfl (fun ls hl => ?_)
                    refine lv_iconst (v := 1) hx hb dJ1_indexOf_5af95_73 (by decide) ?_
                    refine lv_istore (lv' := [(10, .int 1), (9, .int (zI ((((d30_7 + 1) + 1) + x3) - 1))), (8, .int (zI ((d30_7 + 1) + 1))), (7, .int (zI (d30_7 + 1))), (0, .ref tv), (1, .int (zI (x1))), (2, .ref tw), (3, .int (zI (x3))), (4, .int 0), (5, .int (zI (chF uf (0)))), (6, .int (zI (x1 - x3)))]) hx hb dJ1_indexOf_5af95_74 hl (by decide) rfl (fun ls hl => ?_)
                    have key76 : ∀ n76 : Nat, ∀ (d76_10 : Int) (d76_8 : Int) (ls : Array Slot) (H : Heap) (locs : List Loc), (1 ≤ d76_10) → (1 ≤ d76_8) → (d76_10 = d76_8 - (d30_7 + 1) ∧ d76_8 ≤ (((d30_7 + 1) + 1) + x3) - 1) → (((tn : Int) + 1 - d76_8 : Int).toNat) < n76 → lv_has ls 11 [(0, .ref tv), (1, .int (zI (x1))), (2, .ref tw), (3, .int (zI (x3))), (4, .int 0), (5, .int (zI (chF uf (0)))), (6, .int (zI (x1 - x3))), (7, .int (zI (d30_7 + 1))), (8, .int (zI (d76_8))), (9, .int (zI ((((d30_7 + 1) + 1) + x3) - 1))), (10, .int (zI (d76_10)))] → va_P (dC, dI) vwQ [] H → va_D A [] → va_S A s.heap H locs → W p l e (headSpec v_J1_indexOf5 ({ frames := 0, cells := 0, slots := 0, locals := 0 })).room s m ([.ref tv, .int (zI (x1)), .ref tw, .int (zI (x3)), .int 0] : List Value).toArray below meth c H locs 0 0 Q (F0 m 76 ls []) := by
                      intro n76
                      induction n76 with
                      | zero => intro d76_10 d76_8 ls H locs jd76_10 jd76_8 j76 hm76; exact absurd hm76 (by omega)
                      | succ n76 ih76 =>
                        intro d76_10 d76_8 ls H locs jd76_10 jd76_8 j76 hm76 hl hP hD hS
                        refine lv_iload hx hb dJ1_indexOf_5af95_76 (lv_at hl 8 rfl) ?_
                        refine lv_iload hx hb dJ1_indexOf_5af95_78 (lv_at hl 9 rfl) ?_
                        refine lv_icmp_ge (tgt := 103) hx hb dJ1_indexOf_5af95_80 (by decide) (fun b80 => ?_) (fun b80 => ?_)
                        · have yb80 : ((((d30_7 + 1) + 1) + x3) - 1 : Int) ≤ (d76_8 : Int) := (zI_le (a := (((d30_7 + 1) + 1) + x3) - 1) (b := d76_8) (by omega) (by omega) (by omega) (by omega)).mp b80
                          refine lv_iload hx hb dJ1_indexOf_5af95_103 (lv_at hl 8 rfl) ?_
                          refine lv_iload hx hb dJ1_indexOf_5af95_105 (lv_at hl 9 rfl) ?_
                          refine lv_icmp_ne (tgt := 113) hx hb dJ1_indexOf_5af95_107 (by decide) (fun b107 => ?_) (fun b107 => ?_)
                          · have yb107 : ¬ (d76_8 : Int) = ((((d30_7 + 1) + 1) + x3) - 1 : Int) := fun q => b107 ((zI_eq (a := d76_8) (b := (((d30_7 + 1) + 1) + x3) - 1) (by omega) (by omega) (by omega) (by omega)).mpr q)
                            refine lv_iinc (v := zI (d30_7 + 1 + 1)) (lv' := [(7, .int (zI (d30_7 + 1 + 1))), (0, .ref tv), (1, .int (zI (x1))), (2, .ref tw), (3, .int (zI (x3))), (4, .int 0), (5, .int (zI (chF uf (0)))), (6, .int (zI (x1 - x3))), (8, .int (zI (d76_8))), (9, .int (zI ((((d30_7 + 1) + 1) + x3) - 1))), (10, .int (zI (d76_10)))]) hx hb dJ1_indexOf_5af95_113 hl (k := 7) rfl (zI_add (d30_7 + 1) (1)) (by decide) rfl (fun ls hl => ?_)
                            refine lv_goto (tgt := 14) hx hb dJ1_indexOf_5af95_116 (by decide) ?_
                            exact ih14 (d30_7 + 1 + 1) ls H _ (by omega) (by omega) (lv_sub hl [1, 2, 3, 4, 5, 6, 7, 0] rfl) hP hD hS
                          · have yb107 : (d76_8 : Int) = ((((d30_7 + 1) + 1) + x3) - 1 : Int) := (zI_eq (a := d76_8) (b := (((d30_7 + 1) + 1) + x3) - 1) (by omega) (by omega) (by omega) (by omega)).mp b107
                            refine lv_iload hx hb dJ1_indexOf_5af95_110 (lv_at hl 7 rfl) ?_
                            subst hQ
                            refine W.widen (k := 0) (n := 0) (Nat.le_of_ble_eq_true rfl) (Nat.le_of_ble_eq_true rfl) ?_
                            exact W.iret (v := (zI (d30_7 + 1))) hx hb hr (fun t ht hW => ⟨⟨(zI (d30_7 + 1)), (), rfl, ⟨d30_7 + 1, rfl, (by refine ⟨by omega, fun q9 => ⟨by omega, by omega⟩⟩)⟩, by rw [ht]; exact hP, va_K.moved hW.alike hK, hD⟩, hS.F ht⟩) hS.2.2 dJ1_indexOf_5af95_112
                        · have yb80 : ¬ ((((d30_7 + 1) + 1) + x3) - 1 : Int) ≤ (d76_8 : Int) := fun q => b80 ((zI_le (a := (((d30_7 + 1) + 1) + x3) - 1) (b := d76_8) (by omega) (by omega) (by omega) (by omega)).mpr q)
                          refine lv_aload_n hx hb dJ1_indexOf_5af95_83 rfl (lv_at hl 0 rfl) ?_
                          refine lv_iload hx hb dJ1_indexOf_5af95_84 (lv_at hl 8 rfl) ?_
                          refine va_tb hx hb hp1 hS (zI_in (a := d76_8) (n := tn) (by omega) (by omega) (by omega)) rfl dJ1_indexOf_5af95_86 ?_
                          refine lv_topi (fun z ez => ?_)
                          obtain rfl : z = zI (chF tf (d76_8)) := ez.trans (chF_z tf (e := d76_8) (by omega) (by omega))
                          have hch := chF_rng tf (d76_8)
                          refine lv_aload_n hx hb dJ1_indexOf_5af95_87 rfl (lv_at hl 2 rfl) ?_
                          refine lv_iload hx hb dJ1_indexOf_5af95_88 (lv_at hl 10 rfl) ?_
                          refine va_tb hx hb hp0 hS (zI_in (a := d76_10) (n := um) (by omega) (by omega) (by omega)) rfl dJ1_indexOf_5af95_90 ?_
                          refine lv_topi (fun z ez => ?_)
                          obtain rfl : z = zI (chF uf (d76_10)) := ez.trans (chF_z uf (e := d76_10) (by omega) (by omega))
                          have hch := chF_rng uf (d76_10)
                          refine lv_icmp_ne (tgt := 103) hx hb dJ1_indexOf_5af95_91 (by decide) (fun b91 => ?_) (fun b91 => ?_)
                          · have yb91 : ¬ (chF tf (d76_8) : Int) = (chF uf (d76_10) : Int) := fun q => b91 ((zI_eq (a := chF tf (d76_8)) (b := chF uf (d76_10)) (by omega) (by omega) (by omega) (by omega)).mpr q)
                            refine lv_iload hx hb dJ1_indexOf_5af95_103 (lv_at hl 8 rfl) ?_
                            refine lv_iload hx hb dJ1_indexOf_5af95_105 (lv_at hl 9 rfl) ?_
                            refine lv_icmp_ne (tgt := 113) hx hb dJ1_indexOf_5af95_107 (by decide) (fun b107 => ?_) (fun b107 => ?_)
                            · have yb107 : ¬ (d76_8 : Int) = ((((d30_7 + 1) + 1) + x3) - 1 : Int) := fun q => b107 ((zI_eq (a := d76_8) (b := (((d30_7 + 1) + 1) + x3) - 1) (by omega) (by omega) (by omega) (by omega)).mpr q)
                              refine lv_iinc (v := zI (d30_7 + 1 + 1)) (lv' := [(7, .int (zI (d30_7 + 1 + 1))), (0, .ref tv), (1, .int (zI (x1))), (2, .ref tw), (3, .int (zI (x3))), (4, .int 0), (5, .int (zI (chF uf (0)))), (6, .int (zI (x1 - x3))), (8, .int (zI (d76_8))), (9, .int (zI ((((d30_7 + 1) + 1) + x3) - 1))), (10, .int (zI (d76_10)))]) hx hb dJ1_indexOf_5af95_113 hl (k := 7) rfl (zI_add (d30_7 + 1) (1)) (by decide) rfl (fun ls hl => ?_)
                              refine lv_goto (tgt := 14) hx hb dJ1_indexOf_5af95_116 (by decide) ?_
                              exact ih14 (d30_7 + 1 + 1) ls H _ (by omega) (by omega) (lv_sub hl [1, 2, 3, 4, 5, 6, 7, 0] rfl) hP hD hS
                            · have yb107 : (d76_8 : Int) = ((((d30_7 + 1) + 1) + x3) - 1 : Int) := (zI_eq (a := d76_8) (b := (((d30_7 + 1) + 1) + x3) - 1) (by omega) (by omega) (by omega) (by omega)).mp b107
                              refine lv_iload hx hb dJ1_indexOf_5af95_110 (lv_at hl 7 rfl) ?_
                              subst hQ
                              refine W.widen (k := 0) (n := 0) (Nat.le_of_ble_eq_true rfl) (Nat.le_of_ble_eq_true rfl) ?_
                              exact W.iret (v := (zI (d30_7 + 1))) hx hb hr (fun t ht hW => ⟨⟨(zI (d30_7 + 1)), (), rfl, ⟨d30_7 + 1, rfl, (by refine ⟨by omega, fun q9 => ⟨by omega, by omega⟩⟩)⟩, by rw [ht]; exact hP, va_K.moved hW.alike hK, hD⟩, hS.F ht⟩) hS.2.2 dJ1_indexOf_5af95_112
                          · have yb91 : (chF tf (d76_8) : Int) = (chF uf (d76_10) : Int) := (zI_eq (a := chF tf (d76_8)) (b := chF uf (d76_10)) (by omega) (by omega) (by omega) (by omega)).mp b91
                            refine lv_iinc (v := zI (d76_8 + 1)) (lv' := [(8, .int (zI (d76_8 + 1))), (0, .ref tv), (1, .int (zI (x1))), (2, .ref tw), (3, .int (zI (x3))), (4, .int 0), (5, .int (zI (chF uf (0)))), (6, .int (zI (x1 - x3))), (7, .int (zI (d30_7 + 1))), (9, .int (zI ((((d30_7 + 1) + 1) + x3) - 1))), (10, .int (zI (d76_10)))]) hx hb dJ1_indexOf_5af95_94 hl (k := 8) rfl (zI_add (d76_8) (1)) (by decide) rfl (fun ls hl => ?_)
                            refine lv_iinc (v := zI (d76_10 + 1)) (lv' := [(10, .int (zI (d76_10 + 1))), (8, .int (zI (d76_8 + 1))), (0, .ref tv), (1, .int (zI (x1))), (2, .ref tw), (3, .int (zI (x3))), (4, .int 0), (5, .int (zI (chF uf (0)))), (6, .int (zI (x1 - x3))), (7, .int (zI (d30_7 + 1))), (9, .int (zI ((((d30_7 + 1) + 1) + x3) - 1)))]) hx hb dJ1_indexOf_5af95_97 hl (k := 10) rfl (zI_add (d76_10) (1)) (by decide) rfl (fun ls hl => ?_)
                            refine lv_goto (tgt := 76) hx hb dJ1_indexOf_5af95_100 (by decide) ?_
                            exact ih76 (d76_10 + 1) (d76_8 + 1) ls H _ (by omega) (by omega) (by omega) (by omega) (lv_sub hl [2, 3, 4, 5, 6, 7, 8, 9, 1, 10, 0] rfl) hP hD hS
                    exact key76 (((tn : Int) + 1 - (d30_7 + 1) + 1 : Int).toNat + 1) 1 ((d30_7 + 1) + 1) ls H _ (by omega) (by omega) (by omega) (by omega) (lv_sub hl [4, 5, 6, 7, 8, 9, 10, 3, 2, 1, 0] rfl) hP hD hS
                · have yb46 : ¬ (chF tf (d30_7 + 1) : Int) = (chF uf (0) : Int) := fun q => b46 ((zI_eq (a := chF tf (d30_7 + 1)) (b := chF uf (0)) (by omega) (by omega) (by omega) (by omega)).mpr q)
                  refine lv_goto (tgt := 30) hx hb dJ1_indexOf_5af95_49 (by decide) ?_
                  exact ih30 (d30_7 + 1) ls H _ (by omega) (by omega) (lv_sub hl [1, 2, 3, 4, 5, 6, 7, 0] rfl) hP hD hS
          exact key30 ((1000010 - d14_7 : Int).toNat + 1) d14_7 ls H _ (by omega) (by omega) (lv_sub hl [0, 1, 2, 3, 4, 5, 6, 7] rfl) hP hD hS
  exact key14 ((1000010 - 0 : Int).toNat + 1) 0 ls H _ (by omega) (by omega) (lv_sub hl [3, 4, 5, 6, 7, 2, 1, 0] rfl) hP hD hS
theorem dJ1_indexOf_b82b6_0 : decode cJ1_indexOf_b82b6 0 = .ok (.aload_n 1, 1) := by decide +kernel
theorem dJ1_indexOf_b82b6_1 : decode cJ1_indexOf_b82b6 1 = .ok (.arraylength, 1) := by decide +kernel
theorem dJ1_indexOf_b82b6_2 : decode cJ1_indexOf_b82b6 2 = .ok (.ifCond .ne 5, 3) := by decide +kernel
theorem dJ1_indexOf_b82b6_7 : decode cJ1_indexOf_b82b6 7 = .ok (.aload_n 0, 1) := by decide +kernel
theorem dJ1_indexOf_b82b6_8 : decode cJ1_indexOf_b82b6 8 = .ok (.arraylength, 1) := by decide +kernel
theorem dJ1_indexOf_b82b6_9 : decode cJ1_indexOf_b82b6 9 = .ok (.ifCond .ne 5, 3) := by decide +kernel
theorem dJ1_indexOf_b82b6_14 : decode cJ1_indexOf_b82b6 14 = .ok (.aload_n 0, 1) := by decide +kernel
theorem dJ1_indexOf_b82b6_15 : decode cJ1_indexOf_b82b6 15 = .ok (.aload_n 0, 1) := by decide +kernel
theorem dJ1_indexOf_b82b6_16 : decode cJ1_indexOf_b82b6 16 = .ok (.arraylength, 1) := by decide +kernel
theorem dJ1_indexOf_b82b6_17 : decode cJ1_indexOf_b82b6 17 = .ok (.aload_n 1, 1) := by decide +kernel
theorem dJ1_indexOf_b82b6_18 : decode cJ1_indexOf_b82b6 18 = .ok (.aload_n 1, 1) := by decide +kernel
theorem dJ1_indexOf_b82b6_19 : decode cJ1_indexOf_b82b6 19 = .ok (.arraylength, 1) := by decide +kernel
theorem dJ1_indexOf_b82b6_20 : decode cJ1_indexOf_b82b6 20 = .ok (.iconst 0, 1) := by decide +kernel
theorem dJ1_indexOf_b82b6_21 : decode cJ1_indexOf_b82b6 21 = .ok (.invokestatic 99, 3) := by decide +kernel
theorem dJ1_indexOf_b82b6_24 : decode cJ1_indexOf_b82b6 24 = .ok (.ireturn, 1) := by decide +kernel
theorem dJ1_indexOf_b82b6_12 : decode cJ1_indexOf_b82b6 12 = .ok (.iconst (-1), 1) := by decide +kernel
theorem dJ1_indexOf_b82b6_13 : decode cJ1_indexOf_b82b6 13 = .ok (.ireturn, 1) := by decide +kernel
def o_J1_indexOf2 : List Cond := [.methodLink RJ1 99 yJ1_indexOf_5af95, .static yJ1_indexOf_5af95, .initialized RJ1]
def v_J1_indexOf2 : List Cond := .code yJ1_indexOf_b82b6 cJ1_indexOf_b82b6 2 (some .int) :: (o_J1_indexOf2 ++ (v_J1_indexOf5 ++ []))
theorem mow_J1_indexOf2 : ∀ w ∈ o_J1_indexOf2, w ∈ v_J1_indexOf2 := fun _ h => List.mem_cons_of_mem _ (List.mem_append_left _ h)
theorem mem_J1_indexOf2_0 : ∀ w ∈ v_J1_indexOf5, w ∈ v_J1_indexOf2 := fun _ h => List.mem_cons_of_mem _ (List.mem_append_right _ (List.mem_append_left _ h))
set_option maxRecDepth 20000 in
theorem gw_J1_indexOf2 : v_J1_indexOf2.all goodWord = true := by decide +kernel
set_option maxRecDepth 20000 in
theorem g_J1_indexOf2_J1_indexOf5 : GoodIn v_J1_indexOf2 (wsS RJ1 99 yJ1_indexOf_5af95 v_J1_indexOf5) := goodIn_app (goodIn_sub (fun w h => mow_J1_indexOf2 w (by revert w h; decide +kernel)) (by decide +kernel)) (goodIn_sub mem_J1_indexOf2_0 gw_J1_indexOf5)
set_option maxHeartbeats 4000000 in
set_option maxRecDepth 100000 in
theorem c_J1_indexOf2 (l : Launch) (dC : Nat → ClassId) (dI : Nat → Nat → Nat) (tv : Nat) (tn : Nat) (tf : Nat → Int32) (tw : Nat) (um : Nat) (uf : Nat → Int32) (hNtn : tn ≤ 1000000) (hNum : 1 ≤ um ∧ um ≤ 1000000) (sz : Nat) : Met l yJ1_indexOf_b82b6 v_J1_indexOf2 ({ frames := 1, cells := 0, slots := 0, locals := 30 }) (va_Pc [.ref tv, .ref tw] (fun U => U.heap.size = sz ∧ va_P (dC, dI) vwQ [] U.heap ∧ va_K (dC, dI) vwQ [] U ∧ va_D (fun _ => True) [] ∧ va_T .byte tw um (fun j => .int (uf j)) (va_A [] sz) U U.heap ∧ va_T .byte tv tn (fun j => .int (tf j)) (va_A [] sz) U U.heap)) (va_Qi (fun (r : Int32) (_ : Unit) => ∃ z : Int, r = zI z ∧ (-1 ≤ z ∧ (0 ≤ z → z + (um : Int) ≤ (tn : Int) ∧ chF tf z = chF uf 0))) (fun (_ : Unit) (t : State) => va_P (dC, dI) vwQ [] t.heap ∧ va_K (dC, dI) vwQ [] t ∧ va_D (va_A [] sz) []) (va_A [] sz)) 0 0 (va_A [] sz) := by
  refine Met.ofW (cc := cJ1_indexOf_b82b6) (maxL := 2) (ret := (some .int)) (by decide) rfl ?_
  intro p e s m args below meth c s₁ B hml hv
  obtain ⟨rfl, hsz, hP, hK, hD0, hp0, hp1⟩ := hv
  have hx := B.exec
  have hb := B.bytes
  have hr := B.returns
  have hts := atoms_spec (ws := v_J1_indexOf2) B.pre
  have hown : s.vm.findClass RJ1 = some m.cls := findClass_of_methodNamed B.named
  have hlocks := B.notSynchronized
  have ow : ∀ {k : Nat} {w : Cond}, o_J1_indexOf2[k]? = some w → w.before ([.ref tv, .ref tw] : List Value).toArray s = true := fun h => hts _ (mow_J1_indexOf2 _ (List.mem_of_getElem? h))
  subst hsz
  have hD := hD0.self (sz := s.heap.size)
  generalize hAe : va_A [] s.heap.size = A at hD hp0 hp1 ⊢
  have hA : ∀ q : Nat, s.heap.size ≤ q → A q := fun q h => by rw [← hAe]; exact Or.inr h
  have hS : va_S A s.heap s.heap [] := va_S.rf
  have hP : va_P (dC, dI) vwQ [] s.heap := hP
  have hl := lv_entry ([.ref tv, .ref tw]) (n := 2) (Nat.le_of_ble_eq_true rfl)
  rw [lg_entry_eq]
  generalize (lg_sl ([.ref tv, .ref tw]) ++ List.replicate (2 - (lg_sl ([.ref tv, .ref tw])).length) Slot.unset).toArray = ls at hl ⊢
  have hl : lv_has ls 2 [(0, .ref tv), (1, .ref tw)] := hl
  obtain ⟨H, hH⟩ : ∃ H, H = s.heap := ⟨_, rfl⟩
  rw [← hH] at hP
  have hS : va_S A s.heap H [] := by rw [hH]; exact hS
  rw [← hH]
  refine zW_cap (fun Q hQ => ?_)
  refine lv_aload_n hx hb dJ1_indexOf_b82b6_0 rfl (lv_at hl 1 rfl) ?_
  refine va_tlen (v := zI ((um : Int))) hx hb hp0 hS (zI_ofNat um) dJ1_indexOf_b82b6_1 ?_
  refine lv_if_ne (tgt := 7) hx hb dJ1_indexOf_b82b6_2 (by decide) (fun b2 => ?_) (fun b2 => ?_)
  · have yb2 : ¬ ((um : Int) : Int) = (0 : Int) := fun q => b2 ((zI_eq (a := (um : Int)) (b := 0) (by omega) (by omega) (by omega) (by omega)).mpr q)
    refine lv_aload_n hx hb dJ1_indexOf_b82b6_7 rfl (lv_at hl 0 rfl) ?_
    refine va_tlen (v := zI ((tn : Int))) hx hb hp1 hS (zI_ofNat tn) dJ1_indexOf_b82b6_8 ?_
    refine lv_if_ne (tgt := 14) hx hb dJ1_indexOf_b82b6_9 (by decide) (fun b9 => ?_) (fun b9 => ?_)
    · have yb9 : ¬ ((tn : Int) : Int) = (0 : Int) := fun q => b9 ((zI_eq (a := (tn : Int)) (b := 0) (by omega) (by omega) (by omega) (by omega)).mpr q)
      refine lv_aload_n hx hb dJ1_indexOf_b82b6_14 rfl (lv_at hl 0 rfl) ?_
      refine lv_aload_n hx hb dJ1_indexOf_b82b6_15 rfl (lv_at hl 0 rfl) ?_
      refine va_tlen (v := zI ((tn : Int))) hx hb hp1 hS (zI_ofNat tn) dJ1_indexOf_b82b6_16 ?_
      refine lv_aload_n hx hb dJ1_indexOf_b82b6_17 rfl (lv_at hl 1 rfl) ?_
      refine lv_aload_n hx hb dJ1_indexOf_b82b6_18 rfl (lv_at hl 1 rfl) ?_
      refine va_tlen (v := zI ((um : Int))) hx hb hp0 hS (zI_ofNat um) dJ1_indexOf_b82b6_19 ?_
      refine lv_iconst (v := 0) hx hb dJ1_indexOf_b82b6_20 (by decide) ?_
      have hPc := hP.sub (ws' := []) [] rfl
      have hDc := hD.sub (ws' := []) [] (by decide) rfl
      have hKc := hK.sub (tys' := []) [] rfl
      have hFc := va_free (wc := []) hD hS hA [] rfl
      refine va_calli (va_runS (As := [.ref tv, .int (zI ((tn : Int))), .ref tw, .int (zI ((um : Int))), .int 0]) (rest := []) ⟨hx, hb, hml, hown, hts⟩ (c_J1_indexOf5 l dC dI tv tw ((tn : Int)) ((um : Int)) tn tf um uf (by omega) (by omega) (by omega) H.size) (cwS 5 hts g_J1_indexOf2_J1_indexOf5 rfl rfl rfl (by decide +kernel) ⟨(Nat.le_of_ble_eq_true rfl), (Nat.le_of_ble_eq_true rfl)⟩) ⟨fun a U g mk q => by obtain ⟨q0, q1, qP, qK, qD, e0, e1⟩ := q; exact ⟨q0, q1, qP, va_K.moved (u := U) (U := U.calling g mk a) (Vm.Alike.refl U.vm) qK, qD, va_T.moved (u := U) (U := U.calling g mk a) (Vm.Alike.refl U.vm) e0, va_T.moved (u := U) (U := U.calling g mk a) (Vm.Alike.refl U.vm) e1⟩, fun U hU hW => ⟨rfl, by rw [hU], by rw [hU]; exact hPc, va_K.moved hW.alike hKc, hDc.weaken (fun _ _ _ _ => trivial), by rw [hU]; exact va_T.narrow (va_T.moved hW.alike (va_T.kept hp0 hS.2.1)) hFc, by rw [hU]; exact va_T.narrow (va_T.moved hW.alike (va_T.kept hp1 hS.2.1)) hFc⟩⟩ rfl rfl hl.1 rfl (lv_room (Nat.le_of_ble_eq_true rfl)) dJ1_indexOf_b82b6_21 ⟨(Nat.le_of_ble_eq_true rfl), (Nat.le_of_ble_eq_true rfl)⟩) hS (fun q _ h => hFc q h) hFc (fun r_1 u t H1 locs ht hvm hw hB hz1 hk1 hS => ?_)
      obtain ⟨hP1, hK1, hD1⟩ := hB
      rw [ht] at hP1
      have hK1 := va_K.moved hvm.symm hK1
      obtain ⟨hP, hD⟩ := va_join (wr := []) (w1 := []) hP hD [] [] rfl rfl (by decide) (by decide) hk1 hFc hP1 hD1
      have hK := (hK.sub (tys' := []) [] rfl).app hK1
      generalize H1 = H at hP hS ⊢
      have hP : va_P (dC, dI) vwQ [] H := hP
      have hD : va_D A [] := hD
      have hK : va_K (dC, dI) vwQ [] s := hK
      refine W.widen (k := 0) (n := 0) (Nat.le_of_ble_eq_true rfl) (Nat.le_of_ble_eq_true rfl) ?_
      have hw_2 := hw
      obtain ⟨z_3, rfl, hzz_3⟩ := hw_2
      subst hQ
      refine W.widen (k := 0) (n := 0) (Nat.le_of_ble_eq_true rfl) (Nat.le_of_ble_eq_true rfl) ?_
      exact W.iret (v := (zI (z_3))) hx hb hr (fun t ht hW => ⟨⟨(zI (z_3)), (), rfl, ⟨z_3, rfl, (by refine ⟨by omega, fun q9 => ⟨by omega, by omega⟩⟩)⟩, by rw [ht]; exact hP, va_K.moved hW.alike hK, hD⟩, hS.F ht⟩) hS.2.2 dJ1_indexOf_b82b6_24
    · have yb9 : ((tn : Int) : Int) = (0 : Int) := (zI_eq (a := (tn : Int)) (b := 0) (by omega) (by omega) (by omega) (by omega)).mp b9
      refine lv_iconst (v := (-1)) hx hb dJ1_indexOf_b82b6_12 (by decide) ?_
      subst hQ
      refine W.widen (k := 0) (n := 0) (Nat.le_of_ble_eq_true rfl) (Nat.le_of_ble_eq_true rfl) ?_
      exact W.iret (v := (-1)) hx hb hr (fun t ht hW => ⟨⟨(-1), (), rfl, ⟨-1, rfl, (by refine ⟨by omega, fun q9 => ⟨by omega, by omega⟩⟩)⟩, by rw [ht]; exact hP, va_K.moved hW.alike hK, hD⟩, hS.F ht⟩) hS.2.2 dJ1_indexOf_b82b6_13
  · have yb2 : ((um : Int) : Int) = (0 : Int) := (zI_eq (a := (um : Int)) (b := 0) (by omega) (by omega) (by omega) (by omega)).mp b2
    exfalso
    omega
theorem dJ0_indexOf_2f485_0 : decode cJ0_indexOf_2f485 0 = .ok (.aload_n 0, 1) := by decide +kernel
theorem dJ0_indexOf_2f485_1 : decode cJ0_indexOf_2f485 1 = .ok (.invokevirtual 335, 3) := by decide +kernel
theorem dJ0_indexOf_2f485_4 : decode cJ0_indexOf_2f485 4 = .ok (.istore_n 2, 1) := by decide +kernel
theorem dJ0_indexOf_2f485_5 : decode cJ0_indexOf_2f485 5 = .ok (.iload_n 2, 1) := by decide +kernel
theorem dJ0_indexOf_2f485_6 : decode cJ0_indexOf_2f485 6 = .ok (.aload_n 1, 1) := by decide +kernel
theorem dJ0_indexOf_2f485_7 : decode cJ0_indexOf_2f485 7 = .ok (.invokevirtual 335, 3) := by decide +kernel
theorem dJ0_indexOf_2f485_10 : decode cJ0_indexOf_2f485 10 = .ok (.if_icmp .ne 36, 3) := by decide +kernel
theorem dJ0_indexOf_2f485_13 : decode cJ0_indexOf_2f485 13 = .ok (.aload_n 0, 1) := by decide +kernel
theorem dJ0_indexOf_2f485_14 : decode cJ0_indexOf_2f485 14 = .ok (.invokevirtual 492, 3) := by decide +kernel
theorem dJ0_indexOf_2f485_17 : decode cJ0_indexOf_2f485 17 = .ok (.ifCond .eq 17, 3) := by decide +kernel
theorem dJ0_indexOf_2f485_20 : decode cJ0_indexOf_2f485 20 = .ok (.aload_n 0, 1) := by decide +kernel
theorem dJ0_indexOf_2f485_21 : decode cJ0_indexOf_2f485 21 = .ok (.getfield 9, 3) := by decide +kernel
theorem dJ0_indexOf_2f485_24 : decode cJ0_indexOf_2f485 24 = .ok (.aload_n 1, 1) := by decide +kernel
theorem dJ0_indexOf_2f485_25 : decode cJ0_indexOf_2f485 25 = .ok (.getfield 9, 3) := by decide +kernel
theorem dJ0_indexOf_2f485_28 : decode cJ0_indexOf_2f485 28 = .ok (.invokestatic 647, 3) := by decide +kernel
theorem dJ0_indexOf_2f485_31 : decode cJ0_indexOf_2f485 31 = .ok (.goto 14, 3) := by decide +kernel
theorem dJ0_indexOf_2f485_45 : decode cJ0_indexOf_2f485 45 = .ok (.ireturn, 1) := by decide +kernel
def o_J0_indexOfS : List Cond := [.methodLink RJ0 335 yJ0_coder_7d493, .instanceMethod yJ0_coder_7d493, .selects RJ0 yJ0_coder_7d493 yJ0_coder_7d493, .initialized RJ0, .methodLink RJ0 492 yJ0_isLatin1_aae02, .instanceMethod yJ0_isLatin1_aae02, .selects RJ0 yJ0_isLatin1_aae02 yJ0_isLatin1_aae02, .fieldLink RJ0 9 "java/lang/String" "value" "[B", .methodLink RJ0 647 yJ1_indexOf_b82b6, .static yJ1_indexOf_b82b6, .initialized RJ1]
def v_J0_indexOfS : List Cond := .code yJ0_indexOf_2f485 cJ0_indexOf_2f485 3 (some .int) :: (o_J0_indexOfS ++ (v_J0_coderQ ++ (v_J0_isLatin1Q ++ (v_J1_indexOf2 ++ []))))
theorem mow_J0_indexOfS : ∀ w ∈ o_J0_indexOfS, w ∈ v_J0_indexOfS := fun _ h => List.mem_cons_of_mem _ (List.mem_append_left _ h)
theorem mem_J0_indexOfS_0 : ∀ w ∈ v_J0_coderQ, w ∈ v_J0_indexOfS := fun _ h => List.mem_cons_of_mem _ (List.mem_append_right _ (List.mem_append_left _ h))
theorem mem_J0_indexOfS_1 : ∀ w ∈ v_J0_isLatin1Q, w ∈ v_J0_indexOfS := fun _ h => List.mem_cons_of_mem _ (List.mem_append_right _ (List.mem_append_right _ (List.mem_append_left _ h)))
theorem mem_J0_indexOfS_2 : ∀ w ∈ v_J1_indexOf2, w ∈ v_J0_indexOfS := fun _ h => List.mem_cons_of_mem _ (List.mem_append_right _ (List.mem_append_right _ (List.mem_append_right _ (List.mem_append_left _ h))))
set_option maxRecDepth 20000 in
theorem gw_J0_indexOfS : v_J0_indexOfS.all goodWord = true := by decide +kernel
set_option maxRecDepth 20000 in
theorem g_J0_indexOfS_J0_coderQ : GoodIn v_J0_indexOfS (wsV RJ0 335 RJ0 yJ0_coder_7d493 v_J0_coderQ) := goodIn_app (goodIn_sub (fun w h => mow_J0_indexOfS w (by revert w h; decide +kernel)) (by decide +kernel)) (goodIn_sub mem_J0_indexOfS_0 gw_J0_coderQ)
set_option maxRecDepth 20000 in
theorem g_J0_indexOfS_J0_isLatin1Q : GoodIn v_J0_indexOfS (wsV RJ0 492 RJ0 yJ0_isLatin1_aae02 v_J0_isLatin1Q) := goodIn_app (goodIn_sub (fun w h => mow_J0_indexOfS w (by revert w h; decide +kernel)) (by decide +kernel)) (goodIn_sub mem_J0_indexOfS_1 gw_J0_isLatin1Q)
set_option maxRecDepth 20000 in
theorem g_J0_indexOfS_J1_indexOf2 : GoodIn v_J0_indexOfS (va_wsS RJ0 647 yJ1_indexOf_b82b6 v_J1_indexOf2) := goodIn_app (goodIn_sub (fun w h => mow_J0_indexOfS w (by revert w h; decide +kernel)) (by decide +kernel)) (goodIn_sub mem_J0_indexOfS_2 gw_J1_indexOf2)
set_option maxHeartbeats 4000000 in
set_option maxRecDepth 100000 in
theorem c_J0_indexOfS (l : Launch) (dC : Nat → ClassId) (dI : Nat → Nat → Nat) (tx : Nat) (tv : Nat) (tn : Nat) (tf : Nat → Int32) (tz : Nat) (tw : Nat) (um : Nat) (uf : Nat → Int32) (hNtn : tn ≤ 1000000) (hNum : 1 ≤ um ∧ um ≤ 1000000) (sz : Nat) : Met l yJ0_indexOf_2f485 v_J0_indexOfS ({ frames := 2, cells := 0, slots := 0, locals := 51 }) (va_Pc [.ref tx, .ref tz] (fun U => U.heap.size = sz ∧ va_P (dC, dI) vwQ [] U.heap ∧ va_K (dC, dI) vwQ [] U ∧ va_D (fun _ => True) [] ∧ vs_S tx tv tn tf (va_A [] sz) U U.heap ∧ va_Z "java/lang/String" "COMPACT_STRINGS" "Z" (.int 1) (va_A [] sz) U U.heap ∧ vs_S tz tw um uf (va_A [] sz) U U.heap)) (va_Qi (fun (r : Int32) (_ : Unit) => ∃ z : Int, r = zI z ∧ (-1 ≤ z ∧ (0 ≤ z → z + (um : Int) ≤ (tn : Int) ∧ chF tf z = chF uf 0))) (fun (_ : Unit) (t : State) => va_P (dC, dI) vwQ [] t.heap ∧ va_K (dC, dI) vwQ [] t ∧ va_D (va_A [] sz) []) (va_A [] sz)) 0 0 (va_A [] sz) := by
  refine Met.ofW (cc := cJ0_indexOf_2f485) (maxL := 3) (ret := (some .int)) (by decide) rfl ?_
  intro p e s m args below meth c s₁ B hml hv
  obtain ⟨rfl, hsz, hP, hK, hD0, hp0, hp1, hp2⟩ := hv
  have hx := B.exec
  have hb := B.bytes
  have hr := B.returns
  have hts := atoms_spec (ws := v_J0_indexOfS) B.pre
  have hown : s.vm.findClass RJ0 = some m.cls := findClass_of_methodNamed B.named
  have hlocks := B.notSynchronized
  have ow : ∀ {k : Nat} {w : Cond}, o_J0_indexOfS[k]? = some w → w.before ([.ref tx, .ref tz] : List Value).toArray s = true := fun h => hts _ (mow_J0_indexOfS _ (List.mem_of_getElem? h))
  subst hsz
  have hD := hD0.self (sz := s.heap.size)
  generalize hAe : va_A [] s.heap.size = A at hD hp0 hp1 hp2 ⊢
  have hA : ∀ q : Nat, s.heap.size ≤ q → A q := fun q h => by rw [← hAe]; exact Or.inr h
  have hS : va_S A s.heap s.heap [] := va_S.rf
  have hP : va_P (dC, dI) vwQ [] s.heap := hP
  have hl := lv_entry ([.ref tx, .ref tz]) (n := 3) (Nat.le_of_ble_eq_true rfl)
  rw [lg_entry_eq]
  generalize (lg_sl ([.ref tx, .ref tz]) ++ List.replicate (3 - (lg_sl ([.ref tx, .ref tz])).length) Slot.unset).toArray = ls at hl ⊢
  have hl : lv_has ls 3 [(0, .ref tx), (1, .ref tz)] := hl
  obtain ⟨H, hH⟩ : ∃ H, H = s.heap := ⟨_, rfl⟩
  rw [← hH] at hP
  have hS : va_S A s.heap H [] := by rw [hH]; exact hS
  rw [← hH]
  refine zW_cap (fun Q hQ => ?_)
  refine lv_aload_n hx hb dJ0_indexOf_2f485_0 rfl (lv_at hl 0 rfl) ?_
  have hPc := hP.sub (ws' := []) [] rfl
  have hDc := hD.sub (ws' := []) [] (by decide) rfl
  have hKc := hK.sub (tys' := []) [] rfl
  have hFc := va_free (wc := []) hD hS hA [] rfl
  refine va_calli (va_runV (As := []) (rest := []) ⟨hx, hb, hml, hown, hts⟩ (c_J0_coderQ l dC dI tx tv tn tf H.size) (cwV 0 hts g_J0_indexOfS_J0_coderQ rfl rfl rfl (by decide +kernel) ⟨(Nat.le_of_ble_eq_true rfl), (Nat.le_of_ble_eq_true rfl)⟩) ⟨fun a U g mk q => by obtain ⟨q0, q1, qP, qK, qD, e0, e1⟩ := q; exact ⟨q0, q1, qP, va_K.moved (u := U) (U := U.calling g mk a) (Vm.Alike.refl U.vm) qK, qD, va_Z.moved (u := U) (U := U.calling g mk a) (Vm.Alike.refl U.vm) e0, vs_S.moved (u := U) (U := U.calling g mk a) (Vm.Alike.refl U.vm) e1⟩, vs_S.recv hp0 hS, fun U hU hW => ⟨rfl, by rw [hU], by rw [hU]; exact hPc, va_K.moved hW.alike hKc, hDc.weaken (fun _ _ _ _ => trivial), by rw [hU]; exact va_Z.narrow (va_Z.moved hW.alike (va_Z.kept hp1 hS.2.1)) hFc, by rw [hU]; exact vs_S.narrow (vs_S.moved hW.alike (vs_S.kept hp0 hS.2.1)) hFc⟩⟩ rfl rfl hl.1 rfl (lv_room (Nat.le_of_ble_eq_true rfl)) dJ0_indexOf_2f485_1 ⟨(Nat.le_of_ble_eq_true rfl), (Nat.le_of_ble_eq_true rfl)⟩) hS (fun q _ h => hFc q h) hFc (fun r_1 u t H1 locs ht hvm hw hB hz1 hk1 hS => ?_)
  obtain ⟨hP1, hK1, hD1⟩ := hB
  rw [ht] at hP1
  have hK1 := va_K.moved hvm.symm hK1
  obtain ⟨hP, hD⟩ := va_join (wr := []) (w1 := []) hP hD [] [] rfl rfl (by decide) (by decide) hk1 hFc hP1 hD1
  have hK := (hK.sub (tys' := []) [] rfl).app hK1
  generalize H1 = H at hP hS ⊢
  have hP : va_P (dC, dI) vwQ [] H := hP
  have hD : va_D A [] := hD
  have hK : va_K (dC, dI) vwQ [] s := hK
  refine W.widen (k := 0) (n := 0) (Nat.le_of_ble_eq_true rfl) (Nat.le_of_ble_eq_true rfl) ?_
  obtain rfl : r_1 = (0) := hw
  refine lv_istore_n (lv' := [(2, .int (0)), (0, .ref tx), (1, .ref tz)]) hx hb dJ0_indexOf_2f485_4 rfl hl (by decide) rfl (fun ls hl => ?_)
  refine lv_iload_n hx hb dJ0_indexOf_2f485_5 rfl (lv_at hl 0 rfl) ?_
  refine lv_aload_n hx hb dJ0_indexOf_2f485_6 rfl (lv_at hl 2 rfl) ?_
  have hPc := hP.sub (ws' := []) [] rfl
  have hDc := hD.sub (ws' := []) [] (by decide) rfl
  have hKc := hK.sub (tys' := []) [] rfl
  have hFc := va_free (wc := []) hD hS hA [] rfl
  refine va_calli (va_runV (As := []) (rest := [.int (0)]) ⟨hx, hb, hml, hown, hts⟩ (c_J0_coderQ l dC dI tz tw um uf H.size) (cwV 0 hts g_J0_indexOfS_J0_coderQ rfl rfl rfl (by decide +kernel) ⟨(Nat.le_of_ble_eq_true rfl), (Nat.le_of_ble_eq_true rfl)⟩) ⟨fun a U g mk q => by obtain ⟨q0, q1, qP, qK, qD, e0, e1⟩ := q; exact ⟨q0, q1, qP, va_K.moved (u := U) (U := U.calling g mk a) (Vm.Alike.refl U.vm) qK, qD, va_Z.moved (u := U) (U := U.calling g mk a) (Vm.Alike.refl U.vm) e0, vs_S.moved (u := U) (U := U.calling g mk a) (Vm.Alike.refl U.vm) e1⟩, vs_S.recv hp2 hS, fun U hU hW => ⟨rfl, by rw [hU], by rw [hU]; exact hPc, va_K.moved hW.alike hKc, hDc.weaken (fun _ _ _ _ => trivial), by rw [hU]; exact va_Z.narrow (va_Z.moved hW.alike (va_Z.kept hp1 hS.2.1)) hFc, by rw [hU]; exact vs_S.narrow (vs_S.moved hW.alike (vs_S.kept hp2 hS.2.1)) hFc⟩⟩ rfl rfl hl.1 rfl (lv_room (Nat.le_of_ble_eq_true rfl)) dJ0_indexOf_2f485_7 ⟨(Nat.le_of_ble_eq_true rfl), (Nat.le_of_ble_eq_true rfl)⟩) hS (fun q _ h => hFc q h) hFc (fun r_2 u t H1 locs ht hvm hw hB hz1 hk1 hS => ?_)
  obtain ⟨hP1, hK1, hD1⟩ := hB
  rw [ht] at hP1
  have hK1 := va_K.moved hvm.symm hK1
  obtain ⟨hP, hD⟩ := va_join (wr := []) (w1 := []) hP hD [] [] rfl rfl (by decide) (by decide) hk1 hFc hP1 hD1
  have hK := (hK.sub (tys' := []) [] rfl).app hK1
  generalize H1 = H at hP hS ⊢
  have hP : va_P (dC, dI) vwQ [] H := hP
  have hD : va_D A [] := hD
  have hK : va_K (dC, dI) vwQ [] s := hK
  refine W.widen (k := 0) (n := 0) (Nat.le_of_ble_eq_true rfl) (Nat.le_of_ble_eq_true rfl) ?_
  obtain rfl : r_2 = (0) := hw
  refine lv_icmp_ne (tgt := 46) hx hb dJ0_indexOf_2f485_10 (by decide) (fun h9 => absurd h9 (by decide)) (fun _ => ?_)
  refine lv_aload_n hx hb dJ0_indexOf_2f485_13 rfl (lv_at hl 1 rfl) ?_
  have hPc := hP.sub (ws' := []) [] rfl
  have hDc := hD.sub (ws' := []) [] (by decide) rfl
  have hKc := hK.sub (tys' := []) [] rfl
  have hFc := va_free (wc := []) hD hS hA [] rfl
  refine va_calli (va_runV (As := []) (rest := []) ⟨hx, hb, hml, hown, hts⟩ (c_J0_isLatin1Q l dC dI tx tv tn tf H.size) (cwV 0 hts g_J0_indexOfS_J0_isLatin1Q rfl rfl rfl (by decide +kernel) ⟨(Nat.le_of_ble_eq_true rfl), (Nat.le_of_ble_eq_true rfl)⟩) ⟨fun a U g mk q => by obtain ⟨q0, q1, qP, qK, qD, e0, e1⟩ := q; exact ⟨q0, q1, qP, va_K.moved (u := U) (U := U.calling g mk a) (Vm.Alike.refl U.vm) qK, qD, va_Z.moved (u := U) (U := U.calling g mk a) (Vm.Alike.refl U.vm) e0, vs_S.moved (u := U) (U := U.calling g mk a) (Vm.Alike.refl U.vm) e1⟩, vs_S.recv hp0 hS, fun U hU hW => ⟨rfl, by rw [hU], by rw [hU]; exact hPc, va_K.moved hW.alike hKc, hDc.weaken (fun _ _ _ _ => trivial), by rw [hU]; exact va_Z.narrow (va_Z.moved hW.alike (va_Z.kept hp1 hS.2.1)) hFc, by rw [hU]; exact vs_S.narrow (vs_S.moved hW.alike (vs_S.kept hp0 hS.2.1)) hFc⟩⟩ rfl rfl hl.1 rfl (lv_room (Nat.le_of_ble_eq_true rfl)) dJ0_indexOf_2f485_14 ⟨(Nat.le_of_ble_eq_true rfl), (Nat.le_of_ble_eq_true rfl)⟩) hS (fun q _ h => hFc q h) hFc (fun r_3 u t H1 locs ht hvm hw hB hz1 hk1 hS => ?_)
  obtain ⟨hP1, hK1, hD1⟩ := hB
  rw [ht] at hP1
  have hK1 := va_K.moved hvm.symm hK1
  obtain ⟨hP, hD⟩ := va_join (wr := []) (w1 := []) hP hD [] [] rfl rfl (by decide) (by decide) hk1 hFc hP1 hD1
  have hK := (hK.sub (tys' := []) [] rfl).app hK1
  generalize H1 = H at hP hS ⊢
  have hP : va_P (dC, dI) vwQ [] H := hP
  have hD : va_D A [] := hD
  have hK : va_K (dC, dI) vwQ [] s := hK
  refine W.widen (k := 0) (n := 0) (Nat.le_of_ble_eq_true rfl) (Nat.le_of_ble_eq_true rfl) ?_
  obtain rfl : r_3 = (1) := hw
  refine lv_if_eq (tgt := 34) hx hb dJ0_indexOf_2f485_17 (by decide) (fun h9 => absurd h9 (by decide)) (fun _ => ?_)
  refine lv_aload_n hx hb dJ0_indexOf_2f485_20 rfl (lv_at hl 1 rfl) ?_
  refine vk_getf (v := .ref tv) hx hb hp0.2.2.1 hS hown (ow (k := 7) rfl) (fun _ h9 => h9) dJ0_indexOf_2f485_21 ?_
  refine lv_aload_n hx hb dJ0_indexOf_2f485_24 rfl (lv_at hl 2 rfl) ?_
  refine vk_getf (v := .ref tw) hx hb hp2.2.2.1 hS hown (ow (k := 7) rfl) (fun _ h9 => h9) dJ0_indexOf_2f485_25 ?_
  have hPc := hP.sub (ws' := []) [] rfl
  have hDc := hD.sub (ws' := []) [] (by decide) rfl
  have hKc := hK.sub (tys' := []) [] rfl
  have hFc := va_free (wc := []) hD hS hA [] rfl
  refine va_calli (va_runS (As := [.ref tv, .ref tw]) (rest := []) ⟨hx, hb, hml, hown, hts⟩ (c_J1_indexOf2 l dC dI tv tn tf tw um uf (by omega) (by omega) H.size) (va_cwS 2 hts g_J0_indexOfS_J1_indexOf2 rfl rfl rfl (by decide +kernel) ⟨(Nat.le_of_ble_eq_true rfl), (Nat.le_of_ble_eq_true rfl)⟩) ⟨fun a U g mk q => by obtain ⟨q0, q1, qP, qK, qD, e0, e1⟩ := q; exact ⟨q0, q1, qP, va_K.moved (u := U) (U := U.calling g mk a) (Vm.Alike.refl U.vm) qK, qD, va_T.moved (u := U) (U := U.calling g mk a) (Vm.Alike.refl U.vm) e0, va_T.moved (u := U) (U := U.calling g mk a) (Vm.Alike.refl U.vm) e1⟩, fun U hU hW => ⟨rfl, by rw [hU], by rw [hU]; exact hPc, va_K.moved hW.alike hKc, hDc.weaken (fun _ _ _ _ => trivial), by rw [hU]; exact va_T.narrow (va_T.moved hW.alike (va_T.kept hp2.2.2.2 hS.2.1)) hFc, by rw [hU]; exact va_T.narrow (va_T.moved hW.alike (va_T.kept hp0.2.2.2 hS.2.1)) hFc⟩⟩ rfl rfl hl.1 rfl (lv_room (Nat.le_of_ble_eq_true rfl)) dJ0_indexOf_2f485_28 ⟨(Nat.le_of_ble_eq_true rfl), (Nat.le_of_ble_eq_true rfl)⟩) hS (fun q _ h => hFc q h) hFc (fun r_4 u t H1 locs ht hvm hw hB hz1 hk1 hS => ?_)
  obtain ⟨hP1, hK1, hD1⟩ := hB
  rw [ht] at hP1
  have hK1 := va_K.moved hvm.symm hK1
  obtain ⟨hP, hD⟩ := va_join (wr := []) (w1 := []) hP hD [] [] rfl rfl (by decide) (by decide) hk1 hFc hP1 hD1
  have hK := (hK.sub (tys' := []) [] rfl).app hK1
  generalize H1 = H at hP hS ⊢
  have hP : va_P (dC, dI) vwQ [] H := hP
  have hD : va_D A [] := hD
  have hK : va_K (dC, dI) vwQ [] s := hK
  refine W.widen (k := 0) (n := 0) (Nat.le_of_ble_eq_true rfl) (Nat.le_of_ble_eq_true rfl) ?_
  have hw_5 := hw
  obtain ⟨z_6, rfl, hzz_6⟩ := hw_5
  refine lv_goto (tgt := 45) hx hb dJ0_indexOf_2f485_31 (by decide) ?_
  subst hQ
  refine W.widen (k := 0) (n := 0) (Nat.le_of_ble_eq_true rfl) (Nat.le_of_ble_eq_true rfl) ?_
  exact W.iret (v := (zI (z_6))) hx hb hr (fun t ht hW => ⟨⟨(zI (z_6)), (), rfl, ⟨z_6, rfl, (by refine ⟨by omega, fun q9 => ⟨by omega, by omega⟩⟩)⟩, by rw [ht]; exact hP, va_K.moved hW.alike hK, hD⟩, hS.F ht⟩) hS.2.2 dJ0_indexOf_2f485_45
