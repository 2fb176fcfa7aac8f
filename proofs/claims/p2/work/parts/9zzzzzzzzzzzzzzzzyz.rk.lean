section RKE9
variable {m g go go' q p n W W0 T T0 a K : Int} {s c : Nat}
theorem RKE.cel (h : (c : Int) ≤ 8 * (q - p) - W0 + W + 2 * (m - g) - K) (t : W ≤ 12 + (a - q)) (e : a ≤ n) (e2 : q ≤ a) (w : m - g ≤ go) (gg : 0 ≤ go) (k : -100 ≤ K) : (c : Int) ≤ 8 * (n - p) - W0 + 4 * go + 160 := by omega
theorem RKE.slo (h : (s : Int) ≤ 45 * (q - p) - T0 + T + 4 * (m - g) - K) (t : T ≤ 80 + 10 * (a - q)) (e : a ≤ n) (e2 : q ≤ a) (w : m - g ≤ go) (gg : 0 ≤ go) (k : -100 ≤ K) : (s : Int) ≤ 45 * (n - p) - T0 + 16 * go + 700 := by omega
theorem RKE.pst {K' : Int} (h : (s : Int) ≤ 45 * (q - p) - T0 + T + 4 * (m - g) - K ∧ (c : Int) ≤ 8 * (q - p) - W0 + W + 2 * (m - g) - K') (x : 24 * (go' - go) ≤ K) (y : 8 * (go' - go) ≤ K') : (s : Int) ≤ 4 * (m - g) + 45 * (q - p) - T0 + T - 24 * (go' - go) ∧ (c : Int) ≤ 2 * (m - g) + 8 * (q - p) - W0 + W - 8 * (go' - go) := by
  have a1 := h.1
  have a2 := h.2
  clear h
  constructor <;> omega
end RKE9
