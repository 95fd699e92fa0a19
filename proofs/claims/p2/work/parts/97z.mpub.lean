theorem qx_ref {i a : Int32} {S : sM} (h : (r_X7_isRefused i a S).1 = 0) : i = 0 := by
  by_cases e : i = 0
  · exact e
  · rw [r_X7_isRefused, if_neg e] at h
    exact absurd h (by show ¬ (1 : Int32) = 0; decide)
theorem qx_cell {c : Int32} (h : f_X7_isNoCell c = 0) : vp_in c 8 := by
  rw [f_X7_isNoCell] at h
  by_cases e : f_X7_isIn c 0 7 = 0
  · rw [if_pos e] at h
    exact absurd h (by decide)
  · rw [f_X7_isIn] at e
    by_cases e1 : c < 0
    · rw [if_pos e1] at e
      exact absurd rfl e
    · rw [if_neg e1] at e
      by_cases e2 : 7 < c
      · rw [if_pos e2] at e
        exact absurd rfl e
      · refine qm_in8 e1 ?_
        rw [Int32.lt_iff_toInt_lt] at e2
        rw [Int32.le_iff_toInt_le]
        have a7 : (7 : Int32).toInt = 7 := rfl
        have a8 : (8 : Int32).toInt = 8 := rfl
        omega
