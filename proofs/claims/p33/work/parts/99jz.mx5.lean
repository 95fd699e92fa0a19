/-! the places of the order -/
theorem j6_s (a : Int32) : f_J6_compare_7cf53 a a = 0 := by
  unfold f_J6_compare_7cf53
  rw [if_pos (Int32.le_refl a), if_pos rfl]
theorem j13_s (a : Int64) : f_J13_compare_74951 a a = 0 := by
  unfold f_J13_compare_74951
  rw [if_pos (Int64.le_refl a), if_pos rfl]
theorem cmp_s0 (f : qR) : ∀ (fu : Nat) (k : Int32), lr_X7_compare_27 f f fu k = 0
  | 0, _ => rfl
  | fu + 1, k => by
    rw [lr_X7_compare_27]
    by_cases h : k ≤ 0
    · rw [if_pos h, j13_s]
    · rw [if_neg h, if_pos rfl, cmp_s0 f fu]
theorem cmp_s (f : qR) : r_X7_compare f f = 0 := by
  rw [r_X7_compare, if_pos rfl, cmp_s0]
theorem oo_self (a : Int32) (S : sM) : r_X7_orderOf a a S = 0 := by
  unfold r_X7_orderOf
  (repeat' split) <;> first | exact j6_s _ | exact cmp_s _ | contradiction
