/-! PURE: facts of the words of 08 -/
theorem fw_zero {fs : Nat → Int32} {w : Nat} (hw8 : w ≤ 8) (h : sI (weF fs) (ents w) = 0) : fwF fs (gr w) = -1 := by
  sorry
