section PRC9
variable {n at5 q0 q4 q5 T0 T4 T5 W0 W4 W5 w4 w5 g go go5 g0 la4 la5 lb0 lb4 lb5 lr0 lr4 lr5 A0 A4 A5 B0 B4 B5 R0 R4 R5 : Int} {s4 s5 c4 c5 : Nat}
theorem PRC.step (h1 : (s4 : Int) ≤ 45 * (q4 - q0) - T0 + T4 + 4 * (w4 - g) - 24 * (go - g0) - 55 * la4 + 18 * (lb4 - lb0) + 7 * (lr4 - lr0) + (A4 - A0) + (B4 - B0) + (R4 - R0) ∧ 40 * (c4 : Int) ≤ 320 * (q4 - q0) - 40 * W0 + 40 * W4 + 80 * (w4 - g) - 320 * (go - g0) - 440 * la4 + 160 * (lb4 - lb0) + 40 * (lr4 - lr0) + 4 * (A4 - A0) + 4 * (B4 - B0) + 4 * (R4 - R0) ∧ (s4 : Int) ≤ 500000 * (q4 - q0))
    (h2 : (s5 : Int) ≤ 45 * (q5 - q4) - T4 + T5 + 4 * (w5 - w4) - 24 * (go5 - go) - 55 + 18 * (lb5 - lb4) + 7 * (lr5 - lr4) + (A5 - A4) + (B5 - B4) + (R5 - R4) ∧ 40 * (c5 : Int) ≤ 320 * (q5 - q4) - 40 * W4 + 40 * W5 + 80 * (w5 - w4) - 320 * (go5 - go) - 440 + 160 * (lb5 - lb4) + 40 * (lr5 - lr4) + 4 * (A5 - A4) + 4 * (B5 - B4) + 4 * (R5 - R4)) (z : la5 = la4 + 1) :
    ((s4 + s5 : Nat) : Int) ≤ 45 * (q5 - q0) - T0 + T5 + 4 * (w5 - g) - 24 * (go5 - g0) - 55 * la5 + 18 * (lb5 - lb0) + 7 * (lr5 - lr0) + (A5 - A0) + (B5 - B0) + (R5 - R0) ∧ 40 * ((c4 + c5 : Nat) : Int) ≤ 320 * (q5 - q0) - 40 * W0 + 40 * W5 + 80 * (w5 - g) - 320 * (go5 - g0) - 440 * la5 + 160 * (lb5 - lb0) + 40 * (lr5 - lr0) + 4 * (A5 - A0) + 4 * (B5 - B0) + 4 * (R5 - R0) := by
  subst z
  rw [Int.natCast_add, Int.natCast_add]
  have a1 := h1.1
  have a2 := h1.2.1
  have b1 := h2.1
  have b2 := h2.2
  clear h1 h2
  constructor <;> omega
theorem PRC.nrm (h : (s5 : Int) ≤ 45 * (q5 - q0) - T0 + T5 + 4 * (w5 - g) - 24 * (go5 - g0) - 55 * la5 + 18 * (lb5 - lb0) + 7 * (lr5 - lr0) + (A5 - A0) + (B5 - B0) + (R5 - R0) ∧ 40 * (c5 : Int) ≤ 320 * (q5 - q0) - 40 * W0 + 40 * W5 + 80 * (w5 - g) - 320 * (go5 - g0) - 440 * la5 + 160 * (lb5 - lb0) + 40 * (lr5 - lr0) + 4 * (A5 - A0) + 4 * (B5 - B0) + 4 * (R5 - R0)) (a : A5 - A0 ≤ 10 * la5) (b : lb5 ≤ lb0 + la5) (z : 0 ≤ la5) :
    (s5 : Int) ≤ 45 * (q5 - q0) - T0 + T5 + 4 * (w5 - g) - 24 * (go5 - g0) + 7 * (lr5 - lr0) + (B5 - B0) + (R5 - R0) ∧ 40 * (c5 : Int) ≤ 320 * (q5 - q0) - 40 * W0 + 40 * W5 + 80 * (w5 - g) - 320 * (go5 - g0) + 40 * (lr5 - lr0) + 4 * (B5 - B0) + 4 * (R5 - R0) := by
  have a1 := h.1
  have a2 := h.2
  clear h
  constructor <;> omega
theorem PRC.fin (h : (s5 : Int) ≤ 45 * (q5 - q0) - T0 + T5 + 4 * (w5 - g) - 24 * (go5 - g0) + 7 * (lr5 - lr0) + (B5 - B0) + (R5 - R0) ∧ 40 * (c5 : Int) ≤ 320 * (q5 - q0) - 40 * W0 + 40 * W5 + 80 * (w5 - g) - 320 * (go5 - g0) + 40 * (lr5 - lr0) + 4 * (B5 - B0) + 4 * (R5 - R0)) (w : w5 ≤ 2 * go5 + 16) (gg : g = 16) (gz : g0 = 0) (g5 : 0 ≤ go5) :
    (s5 : Int) ≤ 45 * (q5 - q0) - T0 + T5 + 7 * (lr5 - lr0) + (B5 - B0) + (R5 - R0) ∧ 40 * (c5 : Int) ≤ 320 * (q5 - q0) - 40 * W0 + 40 * W5 + 40 * (lr5 - lr0) + 4 * (B5 - B0) + 4 * (R5 - R0) := by
  have a1 := h.1
  have a2 := h.2
  clear h
  constructor <;> omega
theorem PRC.top (h : (s5 : Int) ≤ 45 * (q5 - q0) - T0 + T5 + 7 * (lr5 - lr0) + (B5 - B0) + (R5 - R0) ∧ 40 * (c5 : Int) ≤ 320 * (q5 - q0) - 40 * W0 + 40 * W5 + 40 * (lr5 - lr0) + 4 * (B5 - B0) + 4 * (R5 - R0))
    (t : T5 ≤ 80 + 10 * (at5 - q5)) (t' : W5 ≤ 12 + (at5 - q5)) (e : at5 ≤ n) (e5 : q5 ≤ at5) (l : lr5 ≤ 4164) (b : B5 ≤ 18727) (r : R5 ≤ 18727) (l0 : 0 ≤ lr0) (b0 : 0 ≤ B0) (r0 : 0 ≤ R0) :
    (s5 : Int) ≤ 45 * (n - q0) - T0 + 7 * (4164 - lr0) + (18727 - R0) + (18727 - B0) + 28000 ∧ (c5 : Int) ≤ 8 * (n - q0) - W0 + 40000 := by
  have a1 := h.1
  have a2 := h.2
  clear h
  constructor <;> omega
theorem PRC.exc (h1 : (s4 : Int) ≤ 45 * (q4 - q0) - T0 + T4 + 4 * (w4 - g) - 24 * (go - g0) - 55 * la4 + 18 * (lb4 - lb0) + 7 * (lr4 - lr0) + (A4 - A0) + (B4 - B0) + (R4 - R0) ∧ 40 * (c4 : Int) ≤ 320 * (q4 - q0) - 40 * W0 + 40 * W4 + 80 * (w4 - g) - 320 * (go - g0) - 440 * la4 + 160 * (lb4 - lb0) + 40 * (lr4 - lr0) + 4 * (A4 - A0) + 4 * (B4 - B0) + 4 * (R4 - R0) ∧ (s4 : Int) ≤ 500000 * (q4 - q0))
    (h2 : (s5 : Int) ≤ 45 * (n - q4) - T4 + 8 * go + 130 + 18 * (lb5 - lb4) + 7 * (lr5 - lr4) + (A5 - A4) + (B5 - B4) + (R5 - R4) ∧ 40 * (c5 : Int) ≤ 320 * (n - q4) - 40 * W4 + 80 * go + 4000 + 160 * (lb5 - lb4) + 40 * (lr5 - lr4) + 4 * (A5 - A4) + 4 * (B5 - B4) + 4 * (R5 - R4) ∧ (n ≤ q4 → (s5 : Int) ≤ 7))
    (h3 : A5 - A0 ≤ 10 * (la4 + 1)) (h4 : lb5 ≤ lb4 + 1) (h5 : lb4 ≤ lb0 + la4) (h7 : w4 ≤ 2 * go + 16) (h8 : g = 16) (h9 : g0 = 0) (i0 : 0 ≤ la4) (i1 : 0 ≤ go) :
    ((s4 + s5 : Nat) : Int) ≤ 45 * (n - q0) - T0 + 160 + 7 * (lr5 - lr0) + (B5 - B0) + (R5 - R0) ∧ 40 * ((c4 + c5 : Nat) : Int) ≤ 320 * (n - q0) - 40 * W0 + 4400 + 40 * (lr5 - lr0) + 4 * (B5 - B0) + 4 * (R5 - R0) := by
  rw [Int.natCast_add, Int.natCast_add]
  have a1 := h1.1
  have a2 := h1.2.1
  have b1 := h2.1
  have b2 := h2.2.1
  clear h1 h2
  constructor <;> omega
theorem PRC.ext (h : (s5 : Int) ≤ 45 * (n - q0) - T0 + 160 + 7 * (lr5 - lr0) + (B5 - B0) + (R5 - R0) ∧ 40 * (c5 : Int) ≤ 320 * (n - q0) - 40 * W0 + 4400 + 40 * (lr5 - lr0) + 4 * (B5 - B0) + 4 * (R5 - R0)) (l : lr5 ≤ 4164) (b : B5 ≤ 18727) (r : R5 ≤ 18727) (l0 : 0 ≤ lr0) (b0 : 0 ≤ B0) (r0 : 0 ≤ R0) :
    (s5 : Int) ≤ 45 * (n - q0) - T0 + 7 * (4164 - lr0) + (18727 - R0) + (18727 - B0) + 28000 ∧ (c5 : Int) ≤ 8 * (n - q0) - W0 + 40000 := by
  have a1 := h.1
  have a2 := h.2
  clear h
  constructor <;> omega
theorem PRC.thr (h1 : (s4 : Int) ≤ 500000 * (q4 - q0)) (h2 : n ≤ q4 → (s5 : Int) ≤ 7) (a : q0 ≤ q4) (b : q4 ≤ n) : n ≤ q0 → ((s4 + s5 : Nat) : Int) ≤ 7 := by
  intro q
  have := h2 (by omega)
  rw [Int.natCast_add]
  omega
theorem PRC.big (h1 : (s4 : Int) ≤ 500000 * (q4 - q0)) (h2 : (s5 : Int) ≤ 45 * (q5 - q4) - T4 + T5 + 4 * (w5 - w4) - 24 * (go5 - go) - 55 + 18 * (lb5 - lb4) + 7 * (lr5 - lr4) + (A5 - A4) + (B5 - B4) + (R5 - R4)) (d : q4 + 2 ≤ q5) (gg : go ≤ go5) (t4 : 0 ≤ T4) (t5 : T5 ≤ 80 + 10 * (at5 - q5)) (a : at5 ≤ 8192) (q : 0 ≤ q5) (w : w5 ≤ 17000) (w0 : 0 ≤ w4) (b1 : lb5 ≤ 4164) (b0 : 0 ≤ lb4) (r1 : lr5 ≤ 4164) (r0 : 0 ≤ lr4) (x1 : A5 ≤ 18727) (x0 : 0 ≤ A4) (y1 : B5 ≤ 18727) (y0 : 0 ≤ B4) (z1 : R5 ≤ 18727) (z0 : 0 ≤ R4) : ((s4 + s5 : Nat) : Int) ≤ 500000 * (q5 - q0) := by
  rw [Int.natCast_add]
  omega
theorem PRC.chs (h1 : (s4 : Int) ≤ 45 * (q4 - q0) - T0 + T4 + 4 * (w4 - g) - 24 * (go - g0) - 55 * la4 + 18 * (lb4 - lb0) + 7 * (lr4 - lr0) + (A4 - A0) + (B4 - B0) + (R4 - R0) ∧ 40 * (c4 : Int) ≤ 320 * (q4 - q0) - 40 * W0 + 40 * W4 + 80 * (w4 - g) - 320 * (go - g0) - 440 * la4 + 160 * (lb4 - lb0) + 40 * (lr4 - lr0) + 4 * (A4 - A0) + 4 * (B4 - B0) + 4 * (R4 - R0) ∧ (s4 : Int) ≤ 500000 * (q4 - q0))
    (t : T4 ≤ 80 + 10 * (at5 - q4)) (t' : W4 ≤ 12 + (at5 - q4)) (e : at5 ≤ n) (e5 : q4 ≤ at5) (w : w4 ≤ 2 * go + 16) (gg : g = 16) (gz : g0 = 0) (g5 : 0 ≤ go) (a : A4 - A0 ≤ 10 * la4) (b : lb4 ≤ lb0 + la4) (z : 0 ≤ la4) (l : lr4 ≤ 4164) (b1 : B4 ≤ 18727) (r1 : R4 ≤ 18727) (l0 : 0 ≤ lr0) (b0 : 0 ≤ B0) (r0 : 0 ≤ R0) :
    (0 ≤ 45 * (n - q4) - T4 + 16 * go + 7 * (4164 - lr4) + (18727 - R4) + 27000 ∧ (s4 : Int) + (45 * (n - q4) - T4 + 16 * go + 7 * (4164 - lr4) + (18727 - R4) + 27000) ≤ 45 * (n - q0) - T0 + 7 * (4164 - lr0) + (18727 - R0) + (18727 - B0) + 28000) ∧
      (0 ≤ 8 * (n - q4) - W4 + 4 * go + 20000 ∧ (c4 : Int) + (8 * (n - q4) - W4 + 4 * go + 20000) ≤ 8 * (n - q0) - W0 + 40000) := by
  have a1 := h1.1
  have a2 := h1.2.1
  clear h1
  refine ⟨⟨?_, ?_⟩, ?_, ?_⟩ <;> omega
end PRC9
