theorem z_lt {x y : Int32} (h : x < y) : x.toInt < y.toInt := Int32.lt_iff_toInt_lt.mp h
theorem z_nlt {x y : Int32} (h : ¬ x < y) : y.toInt ≤ x.toInt := Int.not_lt.mp fun q => h (Int32.lt_iff_toInt_lt.mpr q)
theorem z_le {x y : Int32} (h : x ≤ y) : x.toInt ≤ y.toInt := Int32.le_iff_toInt_le.mp h
theorem z_nle {x y : Int32} (h : ¬ x ≤ y) : y.toInt < x.toInt := Int.not_le.mp fun q => h (Int32.le_iff_toInt_le.mpr q)
theorem z_eq {x y : Int32} (h : x = y) : x.toInt = y.toInt := by rw [h]
theorem z_ne {x y : Int32} (h : ¬ x = y) : ¬ x.toInt = y.toInt := fun q => h (Int32.toInt_inj.mp q)
def kf_end (p : Int32) : Int32 := if p.toInt = 0 then 0 else 1
def vf_end (p : Int32) : Int32 := p
def kf_ssa : Int32 := 1
def vf_ssa : Int32 := 0
def kf_pass (p : Int32) : Int32 := if p.toInt < 1 ∨ 7 < p.toInt then 1 else 2
def vf_pass : Int32 := 0
def kf_plain : Int32 := 1
def vf_plain : Int32 := 0
def kf_run (p : Int32) : Int32 := if p.toInt < 1 ∨ 100000 < p.toInt then 1 else 2
def vf_run : Int32 := 0
def kf_list : Int32 := 1
def vf_list : Int32 := 0
def kf_block (p : Int32) : Int32 := if p.toInt < 0 ∨ 4 < p.toInt then 1 else 2
def vf_block : Int32 := 0
def kf_told (p : Int32) : Int32 := if 0 ≤ p.toInt ∧ p.toInt ≤ 4 then 0 else 1
def vf_told (p : Int32) : Int32 := if p.toInt = 4 then -1 else 0
def kf_shown : Int32 := 1
def vf_shown : Int32 := 0
def kf_count (p : Int32) : Int32 := if 0 ≤ p.toInt ∧ p.toInt ≤ 7 then 0 else 1
def vf_count (p : Int32) : Int32 := if p.toInt = 0 then -1 else 0
def kf_word : Int32 := 1
def vf_word : Int64 := 0
def kf_feed : Int32 := 0
def vf_feed : Int32 := 20
