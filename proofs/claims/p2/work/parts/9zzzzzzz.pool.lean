theorem EF.put {f g h : Int → Int} {j i a b c : Int} (e : EF a b c) (o : i ≠ j → EF (f i) (g i) (h i)) : EF (zup f j a i) (zup g j b i) (zup h j c i) := by
  unfold zup
  by_cases q : i = j
  · rw [if_pos q, if_pos q, if_pos q]; exact e
  · rw [if_neg q, if_neg q, if_neg q]; exact o q
theorem EF.two {f g h : Int → Int} {j i b c : Int} (e : EF (f j) b c) (o : i ≠ j → EF (f i) (g i) (h i)) : EF (f i) (zup g j b i) (zup h j c i) := by
  unfold zup
  by_cases q : i = j
  · rw [if_pos q, if_pos q, q]; exact e
  · rw [if_neg q, if_neg q]; exact o q
