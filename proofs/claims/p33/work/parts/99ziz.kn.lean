abbrev RelL : sX → sM → Prop := Rw
theorem rk_quarter {S S1 : sX} {T : sM} {k0 : Int32} {n n0 : Int64} {p0 p1 : Int32} (hI : IM T) (hR : RelL S T) (D : (k0 = 0 ∧ (¬ p0 < 0 ∧ ¬ 8 ≤ p0) ∧ (¬ p1 < -160 ∧ ¬ 160 < p1) ∧ S1 = (r_X5_quarter p0 p1 S).2 ∧ n0 = (r_X5_quarter p0 p1 S).1.toInt64) ∨ (k0 = 1 ∧ (p0 < 0 ∨ 8 ≤ p0) ∧ S1 = S ∧ n0 = n) ∨ (k0 = 2 ∧ (¬ p0 < 0 ∧ ¬ 8 ≤ p0) ∧ (p1 < -160 ∨ 160 < p1) ∧ S1 = S ∧ n0 = n)) : RelL S1 (r_X7_quarter p0 p1 T).2 := (cw_quarter hI hR D).1
theorem rk_zero {S S1 : sX} {T : sM} {k0 : Int32} {n n0 : Int64} {p0 p1 : Int32} (hI : IM T) (hR : RelL S T) (D : (k0 = 0 ∧ (¬ p0 < 0 ∧ ¬ 8 ≤ p0) ∧ S1 = (r_X5_zero p0 (bz p1) S).2 ∧ n0 = (r_X5_zero p0 (bz p1) S).1.toInt64) ∨ (k0 = 1 ∧ (p0 < 0 ∨ 8 ≤ p0) ∧ S1 = S ∧ n0 = n)) : RelL S1 (r_X7_zero p0 (bz p1) T).2 := (cw_zero hI hR (bz01 p1) D).1
theorem rk_endless {S S1 : sX} {T : sM} {k0 : Int32} {n n0 : Int64} {p0 p1 : Int32} (hI : IM T) (hR : RelL S T) (D : (k0 = 0 ∧ (¬ p0 < 0 ∧ ¬ 8 ≤ p0) ∧ S1 = (r_X5_endless p0 (bz p1) S).2 ∧ n0 = (r_X5_endless p0 (bz p1) S).1.toInt64) ∨ (k0 = 1 ∧ (p0 < 0 ∨ 8 ≤ p0) ∧ S1 = S ∧ n0 = n)) : RelL S1 (r_X7_endless p0 (bz p1) T).2 := (cw_endless hI hR (bz01 p1) D).1
theorem rk_row {S S1 : sX} {T : sM} {k0 : Int32} {n n0 : Int64} {p0 p1 : Int32} (hI : IM T) (hR : RelL S T) (D : (k0 = 0 ∧ (¬ p0 < -160 ∧ ¬ 160 < p0) ∧ (¬ p1 < -40 ∧ ¬ 40 < p1) ∧ S1 = (r_X5_row p0 p1 S).2 ∧ n0 = (r_X5_row p0 p1 S).1.toInt64) ∨ (k0 = 1 ∧ (p0 < -160 ∨ 160 < p0) ∧ S1 = S ∧ n0 = n) ∨ (k0 = 1 ∧ (¬ p0 < -160 ∧ ¬ 160 < p0) ∧ (p1 < -40 ∨ 40 < p1) ∧ S1 = S ∧ n0 = n)) : RelL S1 (r_X7_row p0 p1 T).2 := (cw_row hI hR D).1
theorem rk_wipe {S : sX} {T : sM} (hI : IM T) (hR : RelL S T) : RelL (r_X5_wipe S).2 (r_X7_wipe T).2 := (rw_wipe hR hI).2
theorem rc_wipe {S : sX} {T : sM} (hI : IM T) (hR : RelL S T) : (r_X5_wipe S).1 = (r_X7_wipe T).1 := (rw_wipe hR hI).1
theorem rk_copy {S S1 : sX} {T : sM} {k0 : Int32} {n n0 : Int64} {p0 p1 : Int32} (hI : IM T) (hR : RelL S T) (D : (k0 = 0 ∧ (¬ p0 < 0 ∧ ¬ 8 ≤ p0) ∧ (¬ p1 < 0 ∧ ¬ 8 ≤ p1) ∧ S1 = (r_X5_copy p0 p1 S).2 ∧ n0 = (r_X5_copy p0 p1 S).1.toInt64) ∨ (k0 = 1 ∧ (p0 < 0 ∨ 8 ≤ p0) ∧ S1 = S ∧ n0 = n) ∨ (k0 = 1 ∧ (¬ p0 < 0 ∧ ¬ 8 ≤ p0) ∧ (p1 < 0 ∨ 8 ≤ p1) ∧ S1 = S ∧ n0 = n)) : RelL S1 (r_X7_copy p0 p1 T).2 := (cw_copy hI hR D).1
theorem rk_swap {S S1 : sX} {T : sM} {k0 : Int32} {n n0 : Int64} {p0 p1 : Int32} (hI : IM T) (hR : RelL S T) (D : (k0 = 0 ∧ (¬ p0 < 0 ∧ ¬ 8 ≤ p0) ∧ (¬ p1 < 0 ∧ ¬ 8 ≤ p1) ∧ S1 = (r_X5_swap p0 p1 S).2 ∧ n0 = (r_X5_swap p0 p1 S).1.toInt64) ∨ (k0 = 1 ∧ (p0 < 0 ∨ 8 ≤ p0) ∧ S1 = S ∧ n0 = n) ∨ (k0 = 1 ∧ (¬ p0 < 0 ∧ ¬ 8 ≤ p0) ∧ (p1 < 0 ∨ 8 ≤ p1) ∧ S1 = S ∧ n0 = n)) : RelL S1 (r_X7_swap p0 p1 T).2 := (cw_swap hI hR D).1
theorem rk_step {S S1 : sX} {T : sM} {k0 : Int32} {n n0 : Int64} {p0 p1 : Int32} (hI : IM T) (hR : RelL S T) (D : (k0 = 0 ∧ (¬ p0 < 0 ∧ ¬ 8 ≤ p0) ∧ (¬ p1 < -320 ∧ ¬ 320 < p1) ∧ S1 = (r_X5_step p0 p1 S).2 ∧ n0 = (r_X5_step p0 p1 S).1.toInt64) ∨ (k0 = 1 ∧ (p0 < 0 ∨ 8 ≤ p0) ∧ S1 = S ∧ n0 = n) ∨ (k0 = 2 ∧ (¬ p0 < 0 ∧ ¬ 8 ≤ p0) ∧ (p1 < -320 ∨ 320 < p1) ∧ S1 = S ∧ n0 = n)) : RelL S1 (r_X7_step p0 p1 T).2 := (cw_step hI hR D).1
theorem rk_turn {S S1 : sX} {T : sM} {k0 : Int32} {n n0 : Int64} {p0 : Int32} (hI : IM T) (hR : RelL S T) (D : (k0 = 0 ∧ (¬ p0 < 0 ∧ ¬ 8 ≤ p0) ∧ S1 = (r_X5_turn p0 S).2 ∧ n0 = (r_X5_turn p0 S).1.toInt64) ∨ (k0 = 1 ∧ (p0 < 0 ∨ 8 ≤ p0) ∧ S1 = S ∧ n0 = n)) : RelL S1 (r_X7_turn p0 T).2 := (cw_turn hI hR D).1
theorem rk_power {S S1 : sX} {T : sM} {k0 : Int32} {n n0 : Int64} {p0 p1 : Int32} (hI : IM T) (hR : RelL S T) (D : (k0 = 0 ∧ (¬ p0 < 0 ∧ ¬ 8 ≤ p0) ∧ (¬ p1 < 0 ∧ ¬ 8 ≤ p1) ∧ S1 = (r_X5_power p0 p1 S).2 ∧ n0 = (r_X5_power p0 p1 S).1.toInt64) ∨ (k0 = 1 ∧ (p0 < 0 ∨ 8 ≤ p0) ∧ S1 = S ∧ n0 = n) ∨ (k0 = 1 ∧ (¬ p0 < 0 ∧ ¬ 8 ≤ p0) ∧ (p1 < 0 ∨ 8 ≤ p1) ∧ S1 = S ∧ n0 = n)) : RelL S1 (r_X7_power p0 p1 T).2 := (cw_power hI hR D).1
theorem rk_lessen {S S1 : sX} {T : sM} {k0 : Int32} {n n0 : Int64} {p0 p1 : Int32} (hI : IM T) (hR : RelL S T) (D : (k0 = 0 ∧ (¬ p0 < 0 ∧ ¬ 8 ≤ p0) ∧ (¬ p1 < 0 ∧ ¬ 8 ≤ p1) ∧ S1 = (r_X5_lessen p0 p1 S).2 ∧ n0 = (r_X5_lessen p0 p1 S).1.toInt64) ∨ (k0 = 1 ∧ (p0 < 0 ∨ 8 ≤ p0) ∧ S1 = S ∧ n0 = n) ∨ (k0 = 1 ∧ (¬ p0 < 0 ∧ ¬ 8 ≤ p0) ∧ (p1 < 0 ∨ 8 ≤ p1) ∧ S1 = S ∧ n0 = n)) : RelL S1 (r_X7_lessen p0 p1 T).2 := (cw_lessen hI hR D).1
theorem rk_log {S S1 : sX} {T : sM} {k0 : Int32} {n n0 : Int64} {p0 p1 : Int32} (hI : IM T) (hR : RelL S T) (D : (k0 = 0 ∧ (¬ p0 < 0 ∧ ¬ 8 ≤ p0) ∧ (¬ p1 < 0 ∧ ¬ 8 ≤ p1) ∧ S1 = (r_X5_log p0 p1 S).2 ∧ n0 = (r_X5_log p0 p1 S).1.toInt64) ∨ (k0 = 1 ∧ (p0 < 0 ∨ 8 ≤ p0) ∧ S1 = S ∧ n0 = n) ∨ (k0 = 1 ∧ (¬ p0 < 0 ∧ ¬ 8 ≤ p0) ∧ (p1 < 0 ∨ 8 ≤ p1) ∧ S1 = S ∧ n0 = n)) : RelL S1 (r_X7_log p0 p1 T).2 := (cw_log hI hR D).1
theorem rk_all {S S1 : sX} {T : sM} {k0 : Int32} {n n0 : Int64} {p0 : Int32} (hI : IM T) (hR : RelL S T) (D : (k0 = 0 ∧ (¬ p0 < 1 ∧ ¬ 3 < p0) ∧ S1 = (r_X5_all p0 S).2 ∧ n0 = (r_X5_all p0 S).1.toInt64) ∨ (k0 = 1 ∧ (p0 < 1 ∨ 3 < p0) ∧ S1 = S ∧ n0 = n)) : RelL S1 (r_X7_all p0 T).2 := (cw_all hI hR D).1
theorem rk_greater {S S1 : sX} {T : sM} {k0 : Int32} {n n0 : Int64} {p0 p1 p2 : Int32} (hI : IM T) (hR : RelL S T) (D : (k0 = 0 ∧ (¬ p0 < 0 ∧ ¬ 8 ≤ p0) ∧ (¬ p1 < 0 ∧ ¬ 8 ≤ p1) ∧ (¬ p2 < 0 ∧ ¬ 8 ≤ p2) ∧ S1 = (r_X5_greater p0 p1 p2 S).2 ∧ n0 = (r_X5_greater p0 p1 p2 S).1.toInt64) ∨ (k0 = 1 ∧ (p0 < 0 ∨ 8 ≤ p0) ∧ S1 = S ∧ n0 = n) ∨ (k0 = 1 ∧ (¬ p0 < 0 ∧ ¬ 8 ≤ p0) ∧ (p1 < 0 ∨ 8 ≤ p1) ∧ S1 = S ∧ n0 = n) ∨ (k0 = 1 ∧ (¬ p0 < 0 ∧ ¬ 8 ≤ p0) ∧ (¬ p1 < 0 ∧ ¬ 8 ≤ p1) ∧ (p2 < 0 ∨ 8 ≤ p2) ∧ S1 = S ∧ n0 = n)) : RelL S1 (r_X7_greater p0 p1 p2 T).2 := (cw_greater hI hR D).1
theorem rk_lesser {S S1 : sX} {T : sM} {k0 : Int32} {n n0 : Int64} {p0 p1 p2 : Int32} (hI : IM T) (hR : RelL S T) (D : (k0 = 0 ∧ (¬ p0 < 0 ∧ ¬ 8 ≤ p0) ∧ (¬ p1 < 0 ∧ ¬ 8 ≤ p1) ∧ (¬ p2 < 0 ∧ ¬ 8 ≤ p2) ∧ S1 = (r_X5_lesser p0 p1 p2 S).2 ∧ n0 = (r_X5_lesser p0 p1 p2 S).1.toInt64) ∨ (k0 = 1 ∧ (p0 < 0 ∨ 8 ≤ p0) ∧ S1 = S ∧ n0 = n) ∨ (k0 = 1 ∧ (¬ p0 < 0 ∧ ¬ 8 ≤ p0) ∧ (p1 < 0 ∨ 8 ≤ p1) ∧ S1 = S ∧ n0 = n) ∨ (k0 = 1 ∧ (¬ p0 < 0 ∧ ¬ 8 ≤ p0) ∧ (¬ p1 < 0 ∧ ¬ 8 ≤ p1) ∧ (p2 < 0 ∨ 8 ≤ p2) ∧ S1 = S ∧ n0 = n)) : RelL S1 (r_X7_lesser p0 p1 p2 T).2 := (cw_lesser hI hR D).1
theorem rk_end {S S1 : sX} {T : sM} {k0 : Int32} {n n0 : Int64} {p0 p1 : Int32} (hI : IM T) (hR : RelL S T) (D : (k0 = 0 ∧ (¬ p1 < 0 ∧ ¬ 8 ≤ p1) ∧ S1 = (r_X5_end p0 p1 S).2 ∧ n0 = (r_X5_end p0 p1 S).1.toInt64) ∨ (k0 = 1 ∧ (p1 < 0 ∨ 8 ≤ p1) ∧ S1 = S ∧ n0 = n)) : RelL S1 (r_X7_end p0 p1 T).2 := (cw_end hI hR D).1
theorem rk_sort {S : sX} {T : sM} (hI : IM T) (hR : RelL S T) : RelL (r_X5_sort S).2 (r_X7_sort T).2 := (rw_sort hR hI).2
theorem rc_sort {S : sX} {T : sM} (hI : IM T) (hR : RelL S T) : (r_X5_sort S).1 = (r_X7_sort T).1 := (rw_sort hR hI).1
theorem rk_kind {S S1 : sX} {T : sM} {k0 : Int32} {n n0 : Int64} {p0 : Int32} (hI : IM T) (hR : RelL S T) (D : (k0 = 0 ∧ (¬ p0 < 0 ∧ ¬ 8 ≤ p0) ∧ S1 = S ∧ n0 = (r_X5_kind p0 S).toInt64) ∨ (k0 = 1 ∧ (p0 < 0 ∨ 8 ≤ p0) ∧ S1 = S ∧ n0 = n)) : RelL S1 (r_X7_kind p0 T).2 := by
  rcases D with ⟨_, _, e, _⟩ | ⟨_, _, e, _⟩
  · rw [e]; exact rw_o (tu_kind _ T) hR
  · rw [e]; exact rw_o (tu_kind _ T) hR
theorem rk_of {S S1 : sX} {T : sM} {k0 : Int32} {n n0 : Int64} {p0 : Int32} (hI : IM T) (hR : RelL S T) (D : (k0 = 0 ∧ (¬ p0 < 0 ∧ ¬ 8 ≤ p0) ∧ S1 = S ∧ n0 = (r_X5_of p0 S).toInt64) ∨ (k0 = 1 ∧ (p0 < 0 ∨ 8 ≤ p0) ∧ S1 = S ∧ n0 = n)) : RelL S1 (r_X7_of p0 T).2 := by
  rcases D with ⟨_, _, e, _⟩ | ⟨_, _, e, _⟩
  · rw [e]; exact rw_o (tu_of _ T) hR
  · rw [e]; exact rw_o (tu_of _ T) hR
theorem rk_isBelow {S S1 : sX} {T : sM} {k0 : Int32} {n n0 : Int64} {p0 : Int32} (hI : IM T) (hR : RelL S T) (D : (k0 = 0 ∧ (¬ p0 < 0 ∧ ¬ 8 ≤ p0) ∧ S1 = S ∧ n0 = if (r_X5_isBelow p0 S) = 0 then 0 else 1) ∨ (k0 = 1 ∧ (p0 < 0 ∨ 8 ≤ p0) ∧ S1 = S ∧ n0 = n)) : RelL S1 (r_X7_isBelow p0 T).2 := by
  rcases D with ⟨_, _, e, _⟩ | ⟨_, _, e, _⟩
  · rw [e]; exact rw_o (tu_isBelow _ T) hR
  · rw [e]; exact rw_o (tu_isBelow _ T) hR
theorem rk_isZero {S S1 : sX} {T : sM} {k0 : Int32} {n n0 : Int64} {p0 : Int32} (hI : IM T) (hR : RelL S T) (D : (k0 = 0 ∧ (¬ p0 < 0 ∧ ¬ 8 ≤ p0) ∧ S1 = S ∧ n0 = if (r_X5_isZero p0 S) = 0 then 0 else 1) ∨ (k0 = 1 ∧ (p0 < 0 ∨ 8 ≤ p0) ∧ S1 = S ∧ n0 = n)) : RelL S1 (r_X7_isZero p0 T).2 := by
  rcases D with ⟨_, _, e, _⟩ | ⟨_, _, e, _⟩
  · rw [e]; exact rw_o (tu_isZero _ T) hR
  · rw [e]; exact rw_o (tu_isZero _ T) hR
theorem rk_isEndless {S S1 : sX} {T : sM} {k0 : Int32} {n n0 : Int64} {p0 : Int32} (hI : IM T) (hR : RelL S T) (D : (k0 = 0 ∧ (¬ p0 < 0 ∧ ¬ 8 ≤ p0) ∧ S1 = S ∧ n0 = if (r_X5_isEndless p0 S) = 0 then 0 else 1) ∨ (k0 = 1 ∧ (p0 < 0 ∨ 8 ≤ p0) ∧ S1 = S ∧ n0 = n)) : RelL S1 (r_X7_isEndless p0 T).2 := by
  rcases D with ⟨_, _, e, _⟩ | ⟨_, _, e, _⟩
  · rw [e]; exact rw_o (tu_isEndless _ T) hR
  · rw [e]; exact rw_o (tu_isEndless _ T) hR
theorem rk_whole {S S1 : sX} {T : sM} {k0 : Int32} {n n0 : Int64} {p0 p1 : Int32} (hI : IM T) (hR : RelL S T) (D : (k0 = 0 ∧ (¬ p0 < 0 ∧ ¬ 8 ≤ p0) ∧ (¬ p1 < -62 ∧ ¬ 90 < p1) ∧ (¬ f_X2_hasWhole (S.1 p0.toNatClampNeg) = 0) ∧ (¬ (f_X1_roundedDown (S.2.1 p0.toNatClampNeg) p1) < -2147483648 ∧ ¬ 2147483647 < (f_X1_roundedDown (S.2.1 p0.toNatClampNeg) p1)) ∧ S1 = S ∧ n0 = (r_X5_whole p0 p1 S).toInt64) ∨ (k0 = 1 ∧ (p0 < 0 ∨ 8 ≤ p0) ∧ S1 = S ∧ n0 = n) ∨ (k0 = 2 ∧ (¬ p0 < 0 ∧ ¬ 8 ≤ p0) ∧ (p1 < -62 ∨ 90 < p1) ∧ S1 = S ∧ n0 = n) ∨ (k0 = 3 ∧ (¬ p0 < 0 ∧ ¬ 8 ≤ p0) ∧ (¬ p1 < -62 ∧ ¬ 90 < p1) ∧ (f_X2_hasWhole (S.1 p0.toNatClampNeg) = 0) ∧ S1 = S ∧ n0 = n) ∨ (k0 = 3 ∧ (¬ p0 < 0 ∧ ¬ 8 ≤ p0) ∧ (¬ p1 < -62 ∧ ¬ 90 < p1) ∧ (¬ f_X2_hasWhole (S.1 p0.toNatClampNeg) = 0) ∧ ((f_X1_roundedDown (S.2.1 p0.toNatClampNeg) p1) < -2147483648 ∨ 2147483647 < (f_X1_roundedDown (S.2.1 p0.toNatClampNeg) p1)) ∧ S1 = S ∧ n0 = n)) : RelL S1 (r_X7_whole p0 p1 T).2 := by
  rcases D with ⟨_, _, _, _, _, e, _⟩ | ⟨_, _, e, _⟩ | ⟨_, _, _, e, _⟩ | ⟨_, _, _, _, e, _⟩ | ⟨_, _, _, _, _, e, _⟩
  · rw [e]; exact rw_o (tu_whole _ _ T) hR
  · rw [e]; exact rw_o (tu_whole _ _ T) hR
  · rw [e]; exact rw_o (tu_whole _ _ T) hR
  · rw [e]; exact rw_o (tu_whole _ _ T) hR
  · rw [e]; exact rw_o (tu_whole _ _ T) hR
theorem rk_height {S S1 : sX} {T : sM} {k0 : Int32} {n n0 : Int64} {p0 : Int32} (hI : IM T) (hR : RelL S T) (D : (k0 = 0 ∧ (¬ p0 < 0 ∧ ¬ 8 ≤ p0) ∧ (¬ f_X2_hasHeight (S.1 p0.toNatClampNeg) = 0) ∧ S1 = S ∧ n0 = (r_X5_height p0 S).toInt64) ∨ (k0 = 1 ∧ (p0 < 0 ∨ 8 ≤ p0) ∧ S1 = S ∧ n0 = n) ∨ (k0 = 2 ∧ (¬ p0 < 0 ∧ ¬ 8 ≤ p0) ∧ (f_X2_hasHeight (S.1 p0.toNatClampNeg) = 0) ∧ S1 = S ∧ n0 = n)) : RelL S1 (r_X7_height p0 T).2 := by
  rcases D with ⟨_, _, _, e, _⟩ | ⟨_, _, e, _⟩ | ⟨_, _, _, e, _⟩
  · rw [e]; exact rw_o (tu_height _ T) hR
  · rw [e]; exact rw_o (tu_height _ T) hR
  · rw [e]; exact rw_o (tu_height _ T) hR
theorem rk_digits {S S1 : sX} {T : sM} {k0 : Int32} {n n0 : Int64} {p0 : Int32} (hI : IM T) (hR : RelL S T) (D : (k0 = 0 ∧ (¬ p0 < 0 ∧ ¬ 8 ≤ p0) ∧ (¬ f_X2_hasHeight (S.1 p0.toNatClampNeg) = 0) ∧ S1 = S ∧ n0 = (r_X5_digits p0 S).toInt64) ∨ (k0 = 1 ∧ (p0 < 0 ∨ 8 ≤ p0) ∧ S1 = S ∧ n0 = n) ∨ (k0 = 2 ∧ (¬ p0 < 0 ∧ ¬ 8 ≤ p0) ∧ (f_X2_hasHeight (S.1 p0.toNatClampNeg) = 0) ∧ S1 = S ∧ n0 = n)) : RelL S1 (r_X7_digits p0 T).2 := by
  rcases D with ⟨_, _, _, e, _⟩ | ⟨_, _, e, _⟩ | ⟨_, _, _, e, _⟩
  · rw [e]; exact rw_o (tu_digits _ T) hR
  · rw [e]; exact rw_o (tu_digits _ T) hR
  · rw [e]; exact rw_o (tu_digits _ T) hR
theorem rk_upper {S S1 : sX} {T : sM} {k0 : Int32} {n n0 : Int64} {p0 : Int32} (hI : IM T) (hR : RelL S T) (D : (k0 = 0 ∧ (¬ p0 < 0 ∧ ¬ 8 ≤ p0) ∧ (¬ f_X2_hasToldDigits (S.1 p0.toNatClampNeg) = 0) ∧ S1 = S ∧ n0 = (r_X5_upper p0 S).toInt64) ∨ (k0 = 1 ∧ (p0 < 0 ∨ 8 ≤ p0) ∧ S1 = S ∧ n0 = n) ∨ (k0 = 2 ∧ (¬ p0 < 0 ∧ ¬ 8 ≤ p0) ∧ (f_X2_hasToldDigits (S.1 p0.toNatClampNeg) = 0) ∧ S1 = S ∧ n0 = n)) : RelL S1 (r_X7_upper p0 T).2 := by
  rcases D with ⟨_, _, _, e, _⟩ | ⟨_, _, e, _⟩ | ⟨_, _, _, e, _⟩
  · rw [e]; exact rw_o (tu_upper _ T) hR
  · rw [e]; exact rw_o (tu_upper _ T) hR
  · rw [e]; exact rw_o (tu_upper _ T) hR
theorem rk_lower {S S1 : sX} {T : sM} {k0 : Int32} {n n0 : Int64} {p0 : Int32} (hI : IM T) (hR : RelL S T) (D : (k0 = 0 ∧ (¬ p0 < 0 ∧ ¬ 8 ≤ p0) ∧ (¬ f_X2_hasToldDigits (S.1 p0.toNatClampNeg) = 0) ∧ S1 = S ∧ n0 = (r_X5_lower p0 S).toInt64) ∨ (k0 = 1 ∧ (p0 < 0 ∨ 8 ≤ p0) ∧ S1 = S ∧ n0 = n) ∨ (k0 = 2 ∧ (¬ p0 < 0 ∧ ¬ 8 ≤ p0) ∧ (f_X2_hasToldDigits (S.1 p0.toNatClampNeg) = 0) ∧ S1 = S ∧ n0 = n)) : RelL S1 (r_X7_lower p0 T).2 := by
  rcases D with ⟨_, _, _, e, _⟩ | ⟨_, _, e, _⟩ | ⟨_, _, _, e, _⟩
  · rw [e]; exact rw_o (tu_lower _ T) hR
  · rw [e]; exact rw_o (tu_lower _ T) hR
  · rw [e]; exact rw_o (tu_lower _ T) hR
theorem rk_text {S : sX} {T : sM} {p0 : Int32} (hI : IM T) (hR : RelL S T) : RelL S (r_X7_isRefused (f_X7_isNoCell p0) 0 T).2 := rw_o (tq_isRefused _ _ T) hR
theorem rk_order {S S1 : sX} {T : sM} {k0 : Int32} {n n0 : Int64} {p0 p1 : Int32} (hI : IM T) (hR : RelL S T) (D : (k0 = 0 ∧ (¬ p0 < 0 ∧ ¬ 8 ≤ p0) ∧ (¬ p1 < 0 ∧ ¬ 8 ≤ p1) ∧ S1 = S ∧ n0 = (r_X5_order p0 p1 S).toInt64) ∨ (k0 = 1 ∧ (p0 < 0 ∨ 8 ≤ p0) ∧ S1 = S ∧ n0 = n) ∨ (k0 = 1 ∧ (¬ p0 < 0 ∧ ¬ 8 ≤ p0) ∧ (p1 < 0 ∨ 8 ≤ p1) ∧ S1 = S ∧ n0 = n)) : RelL S1 (r_X7_order p0 p1 T).2 := by
  rcases D with ⟨_, _, _, e, _⟩ | ⟨_, _, e, _⟩ | ⟨_, _, _, e, _⟩
  · rw [e]; exact rw_o (tu_order _ _ T) hR
  · rw [e]; exact rw_o (tu_order _ _ T) hR
  · rw [e]; exact rw_o (tu_order _ _ T) hR
theorem rk_isAlike {S S1 : sX} {T : sM} {k0 : Int32} {n n0 : Int64} {p0 p1 : Int32} (hI : IM T) (hR : RelL S T) (D : (k0 = 0 ∧ (¬ p0 < 0 ∧ ¬ 8 ≤ p0) ∧ (¬ p1 < 0 ∧ ¬ 8 ≤ p1) ∧ S1 = S ∧ n0 = if (r_X5_isAlike p0 p1 S) = 0 then 0 else 1) ∨ (k0 = 1 ∧ (p0 < 0 ∨ 8 ≤ p0) ∧ S1 = S ∧ n0 = n) ∨ (k0 = 1 ∧ (¬ p0 < 0 ∧ ¬ 8 ≤ p0) ∧ (p1 < 0 ∨ 8 ≤ p1) ∧ S1 = S ∧ n0 = n)) : RelL S1 (r_X7_isAlike p0 p1 T).2 := by
  rcases D with ⟨_, _, _, e, _⟩ | ⟨_, _, e, _⟩ | ⟨_, _, _, e, _⟩
  · rw [e]; exact rw_o (tu_isAlike _ _ T) hR
  · rw [e]; exact rw_o (tu_isAlike _ _ T) hR
  · rw [e]; exact rw_o (tu_isAlike _ _ T) hR
theorem rk_isNear {S S1 : sX} {T : sM} {k0 : Int32} {n n0 : Int64} {p0 p1 : Int32} (hI : IM T) (hR : RelL S T) (D : (k0 = 0 ∧ (¬ p0 < 0 ∧ ¬ 8 ≤ p0) ∧ (¬ p1 < 0 ∧ ¬ 8 ≤ p1) ∧ S1 = S ∧ n0 = if (r_X5_isNear p0 p1 S) = 0 then 0 else 1) ∨ (k0 = 1 ∧ (p0 < 0 ∨ 8 ≤ p0) ∧ S1 = S ∧ n0 = n) ∨ (k0 = 1 ∧ (¬ p0 < 0 ∧ ¬ 8 ≤ p0) ∧ (p1 < 0 ∨ 8 ≤ p1) ∧ S1 = S ∧ n0 = n)) : RelL S1 (r_X7_isNear p0 p1 T).2 := by
  rcases D with ⟨_, _, _, e, _⟩ | ⟨_, _, e, _⟩ | ⟨_, _, _, e, _⟩
  · rw [e]; exact rw_o (tu_isNear _ _ T) hR
  · rw [e]; exact rw_o (tu_isNear _ _ T) hR
  · rw [e]; exact rw_o (tu_isNear _ _ T) hR
theorem rk_most {S S1 : sX} {T : sM} {k0 : Int32} {n n0 : Int64} {p0 p1 : Int32} (hI : IM T) (hR : RelL S T) (D : (k0 = 0 ∧ (¬ p0 < 0 ∧ ¬ 8 ≤ p0) ∧ (¬ p1 < 0 ∧ ¬ 8 ≤ p1) ∧ (¬ f_X2_areNear (S.1 p0.toNatClampNeg) (S.1 p1.toNatClampNeg) = 0) ∧ S1 = S ∧ n0 = (r_X5_most p0 p1 S).toInt64) ∨ (k0 = 1 ∧ (p0 < 0 ∨ 8 ≤ p0) ∧ S1 = S ∧ n0 = n) ∨ (k0 = 1 ∧ (¬ p0 < 0 ∧ ¬ 8 ≤ p0) ∧ (p1 < 0 ∨ 8 ≤ p1) ∧ S1 = S ∧ n0 = n) ∨ (k0 = 2 ∧ (¬ p0 < 0 ∧ ¬ 8 ≤ p0) ∧ (¬ p1 < 0 ∧ ¬ 8 ≤ p1) ∧ (f_X2_areNear (S.1 p0.toNatClampNeg) (S.1 p1.toNatClampNeg) = 0) ∧ S1 = S ∧ n0 = n)) : RelL S1 (r_X7_most p0 p1 T).2 := by
  rcases D with ⟨_, _, _, _, e, _⟩ | ⟨_, _, e, _⟩ | ⟨_, _, _, e, _⟩ | ⟨_, _, _, _, e, _⟩
  · rw [e]; exact rw_o (tu_most _ _ T) hR
  · rw [e]; exact rw_o (tu_most _ _ T) hR
  · rw [e]; exact rw_o (tu_most _ _ T) hR
  · rw [e]; exact rw_o (tu_most _ _ T) hR
theorem rk_isWithin {S S1 : sX} {T : sM} {k0 : Int32} {n n0 : Int64} {p0 p1 : Int32} (hI : IM T) (hR : RelL S T) (D : (k0 = 0 ∧ (¬ p0 < 0 ∧ ¬ 8 ≤ p0) ∧ (¬ p1 < 0 ∧ ¬ 8 ≤ p1) ∧ (¬ f_X2_areNear (S.1 p0.toNatClampNeg) (S.1 p1.toNatClampNeg) = 0) ∧ S1 = S ∧ n0 = if (r_X5_isWithin p0 p1 S) = 0 then 0 else 1) ∨ (k0 = 1 ∧ (p0 < 0 ∨ 8 ≤ p0) ∧ S1 = S ∧ n0 = n) ∨ (k0 = 1 ∧ (¬ p0 < 0 ∧ ¬ 8 ≤ p0) ∧ (p1 < 0 ∨ 8 ≤ p1) ∧ S1 = S ∧ n0 = n) ∨ (k0 = 2 ∧ (¬ p0 < 0 ∧ ¬ 8 ≤ p0) ∧ (¬ p1 < 0 ∧ ¬ 8 ≤ p1) ∧ (f_X2_areNear (S.1 p0.toNatClampNeg) (S.1 p1.toNatClampNeg) = 0) ∧ S1 = S ∧ n0 = n)) : RelL S1 (r_X7_isWithin p0 p1 T).2 := by
  rcases D with ⟨_, _, _, _, e, _⟩ | ⟨_, _, e, _⟩ | ⟨_, _, _, e, _⟩ | ⟨_, _, _, _, e, _⟩
  · rw [e]; exact rw_o (tu_isWithin _ _ T) hR
  · rw [e]; exact rw_o (tu_isWithin _ _ T) hR
  · rw [e]; exact rw_o (tu_isWithin _ _ T) hR
  · rw [e]; exact rw_o (tu_isWithin _ _ T) hR
theorem rk_find {S S1 : sX} {T : sM} {k0 : Int32} {n n0 : Int64} {p0 p1 : Int32} (hI : IM T) (hR : RelL S T) (D : (k0 = 0 ∧ (¬ p0 < 0 ∧ ¬ 8 ≤ p0) ∧ S1 = S ∧ n0 = (r_X5_find p0 p1 S).toInt64) ∨ (k0 = 1 ∧ (p0 < 0 ∨ 8 ≤ p0) ∧ S1 = S ∧ n0 = n)) : RelL S1 (r_X7_find p0 p1 T).2 := by
  rcases D with ⟨_, _, e, _⟩ | ⟨_, _, e, _⟩
  · rw [e]; exact rw_o (tu_find _ _ T) hR
  · rw [e]; exact rw_o (tu_find _ _ T) hR
theorem rk_rank {S S1 : sX} {T : sM} {k0 : Int32} {n n0 : Int64} {p0 : Int32} (hI : IM T) (hR : RelL S T) (D : (k0 = 0 ∧ (¬ p0 < 0 ∧ ¬ 8 ≤ p0) ∧ S1 = S ∧ n0 = (r_X5_rank p0 S).toInt64) ∨ (k0 = 1 ∧ (p0 < 0 ∨ 8 ≤ p0) ∧ S1 = S ∧ n0 = n)) : RelL S1 (r_X7_rank p0 T).2 := by
  rcases D with ⟨_, _, e, _⟩ | ⟨_, _, e, _⟩
  · rw [e]; exact rw_o (tu_rank _ T) hR
  · rw [e]; exact rw_o (tu_rank _ T) hR
theorem rk_before {S S1 : sX} {T : sM} {k0 : Int32} {n n0 : Int64} {p0 p1 : Int32} (hI : IM T) (hR : RelL S T) (D : (k0 = 0 ∧ (¬ p1 < 0 ∧ ¬ 8 ≤ p1) ∧ (¬ p0 < 0 ∧ ¬ 3 < p0) ∧ S1 = S ∧ n0 = (r_X5_before p0 p1 S).toInt64) ∨ (k0 = 1 ∧ (p1 < 0 ∨ 8 ≤ p1) ∧ S1 = S ∧ n0 = n) ∨ (k0 = 2 ∧ (¬ p1 < 0 ∧ ¬ 8 ≤ p1) ∧ (p0 < 0 ∨ 3 < p0) ∧ S1 = S ∧ n0 = n)) : RelL S1 (r_X7_before p0 p1 T).2 := by
  rcases D with ⟨_, _, _, e, _⟩ | ⟨_, _, e, _⟩ | ⟨_, _, _, e, _⟩
  · rw [e]; exact rw_o (tu_before _ _ T) hR
  · rw [e]; exact rw_o (tu_before _ _ T) hR
  · rw [e]; exact rw_o (tu_before _ _ T) hR
theorem rk_answer {S S1 : sX} {T : sM} {k0 : Int32} {n n0 : Int64} {p0 p1 p2 : Int32} (hI : IM T) (hR : RelL S T) (D : (k0 = 0 ∧ (¬ p0 < 1 ∧ ¬ 3 < p0) ∧ (¬ p1 < (f_X4_firstQ p0) ∧ ¬ (f_X4_lastQ p0) < p1) ∧ (¬ p2 < -62 ∧ ¬ 90 < p2) ∧ (¬ (f_X1_roundedDown (f_X4_digitsAt p0 p1) p2) < -2147483648 ∧ ¬ 2147483647 < (f_X1_roundedDown (f_X4_digitsAt p0 p1) p2)) ∧ S1 = S ∧ n0 = (r_X5_answer p0 p1 p2 S).toInt64) ∨ (k0 = 1 ∧ (p0 < 1 ∨ 3 < p0) ∧ S1 = S ∧ n0 = n) ∨ (k0 = 1 ∧ (¬ p0 < 1 ∧ ¬ 3 < p0) ∧ (p1 < (f_X4_firstQ p0) ∨ (f_X4_lastQ p0) < p1) ∧ S1 = S ∧ n0 = n) ∨ (k0 = 1 ∧ (¬ p0 < 1 ∧ ¬ 3 < p0) ∧ (¬ p1 < (f_X4_firstQ p0) ∧ ¬ (f_X4_lastQ p0) < p1) ∧ (p2 < -62 ∨ 90 < p2) ∧ S1 = S ∧ n0 = n) ∨ (k0 = 2 ∧ (¬ p0 < 1 ∧ ¬ 3 < p0) ∧ (¬ p1 < (f_X4_firstQ p0) ∧ ¬ (f_X4_lastQ p0) < p1) ∧ (¬ p2 < -62 ∧ ¬ 90 < p2) ∧ ((f_X1_roundedDown (f_X4_digitsAt p0 p1) p2) < -2147483648 ∨ 2147483647 < (f_X1_roundedDown (f_X4_digitsAt p0 p1) p2)) ∧ S1 = S ∧ n0 = n)) : RelL S1 (r_X7_answer p0 p1 p2 T).2 := by
  rcases D with ⟨_, _, _, _, _, e, _⟩ | ⟨_, _, e, _⟩ | ⟨_, _, _, e, _⟩ | ⟨_, _, _, _, e, _⟩ | ⟨_, _, _, _, _, e, _⟩
  · rw [e]; exact rw_o (tu_answer _ _ _ T) hR
  · rw [e]; exact rw_o (tu_answer _ _ _ T) hR
  · rw [e]; exact rw_o (tu_answer _ _ _ T) hR
  · rw [e]; exact rw_o (tu_answer _ _ _ T) hR
  · rw [e]; exact rw_o (tu_answer _ _ _ T) hR
theorem rk_below {S S1 : sX} {T : sM} {k0 : Int32} {n n0 : Int64} {p0 p1 p2 : Int32} (hI : IM T) (hR : RelL S T) (D : (k0 = 0 ∧ (¬ p0 < 0 ∧ ¬ 3 < p0) ∧ (¬ p2 < -62 ∧ ¬ 90 < p2) ∧ S1 = S ∧ n0 = (r_X5_below p0 p1 p2 S).toInt64) ∨ (k0 = 1 ∧ (p0 < 0 ∨ 3 < p0) ∧ S1 = S ∧ n0 = n) ∨ (k0 = 1 ∧ (¬ p0 < 0 ∧ ¬ 3 < p0) ∧ (p2 < -62 ∨ 90 < p2) ∧ S1 = S ∧ n0 = n)) : RelL S1 (r_X7_below p0 p1 p2 T).2 := by
  rcases D with ⟨_, _, _, e, _⟩ | ⟨_, _, e, _⟩ | ⟨_, _, _, e, _⟩
  · rw [e]; exact rw_o (tu_below _ _ _ T) hR
  · rw [e]; exact rw_o (tu_below _ _ _ T) hR
  · rw [e]; exact rw_o (tu_below _ _ _ T) hR
theorem rk_rises {S S1 : sX} {T : sM} {k0 : Int32} {n n0 : Int64} {p0 p1 p2 : Int32} (hI : IM T) (hR : RelL S T) (D : (k0 = 0 ∧ (¬ p0 < 0 ∧ ¬ 3 < p0) ∧ (¬ p1 < (f_X4_firstQ p0) ∧ ¬ (f_X4_lastQ p0) < p1) ∧ (¬ p2 < p1 ∧ ¬ (f_X4_lastQ p0) < p2) ∧ S1 = S ∧ n0 = if (r_X5_rises p0 p1 p2 S) = 0 then 0 else 1) ∨ (k0 = 1 ∧ (p0 < 0 ∨ 3 < p0) ∧ S1 = S ∧ n0 = n) ∨ (k0 = 1 ∧ (¬ p0 < 0 ∧ ¬ 3 < p0) ∧ (p1 < (f_X4_firstQ p0) ∨ (f_X4_lastQ p0) < p1) ∧ S1 = S ∧ n0 = n) ∨ (k0 = 1 ∧ (¬ p0 < 0 ∧ ¬ 3 < p0) ∧ (¬ p1 < (f_X4_firstQ p0) ∧ ¬ (f_X4_lastQ p0) < p1) ∧ (p2 < p1 ∨ (f_X4_lastQ p0) < p2) ∧ S1 = S ∧ n0 = n)) : RelL S1 (r_X7_rises p0 p1 p2 T).2 := by
  rcases D with ⟨_, _, _, _, e, _⟩ | ⟨_, _, e, _⟩ | ⟨_, _, _, e, _⟩ | ⟨_, _, _, _, e, _⟩
  · rw [e]; exact rw_o (tu_rises _ _ _ T) hR
  · rw [e]; exact rw_o (tu_rises _ _ _ T) hR
  · rw [e]; exact rw_o (tu_rises _ _ _ T) hR
  · rw [e]; exact rw_o (tu_rises _ _ _ T) hR
theorem rk_between {S S1 : sX} {T : sM} {k0 : Int32} {n n0 : Int64} {p0 : Int32} (hI : IM T) (hR : RelL S T) (D : (k0 = 0 ∧ (¬ p0 < (f_X4_firstQ 2) ∧ ¬ (f_X4_lastQ 2) < p0) ∧ S1 = S ∧ n0 = if (r_X5_between p0 S) = 0 then 0 else 1) ∨ (k0 = 1 ∧ (p0 < (f_X4_firstQ 2) ∨ (f_X4_lastQ 2) < p0) ∧ S1 = S ∧ n0 = n)) : RelL S1 (r_X7_between p0 T).2 := by
  rcases D with ⟨_, _, e, _⟩ | ⟨_, _, e, _⟩
  · rw [e]; exact rw_o (tu_between _ T) hR
  · rw [e]; exact rw_o (tu_between _ T) hR
theorem rk_lies {S S1 : sX} {T : sM} {k0 : Int32} {n n0 : Int64} {p0 : Int32} (hI : IM T) (hR : RelL S T) (D : (k0 = 0 ∧ (¬ p0 < (f_X4_firstQ 3) ∧ ¬ (f_X4_lastQ 3) < p0) ∧ S1 = S ∧ n0 = if (r_X5_lies p0 S) = 0 then 0 else 1) ∨ (k0 = 1 ∧ (p0 < (f_X4_firstQ 3) ∨ (f_X4_lastQ 3) < p0) ∧ S1 = S ∧ n0 = n)) : RelL S1 (r_X7_lies p0 T).2 := by
  rcases D with ⟨_, _, e, _⟩ | ⟨_, _, e, _⟩
  · rw [e]; exact rw_o (tu_lies _ T) hR
  · rw [e]; exact rw_o (tu_lies _ T) hR
theorem rk_undone {S S1 : sX} {T : sM} {k0 : Int32} {n n0 : Int64} {p0 : Int32} (hI : IM T) (hR : RelL S T) (D : (k0 = 0 ∧ (¬ p0 < -4 ∧ ¬ 144 < p0) ∧ S1 = S ∧ n0 = if (r_X5_undone p0 S) = 0 then 0 else 1) ∨ (k0 = 1 ∧ (p0 < -4 ∨ 144 < p0) ∧ S1 = S ∧ n0 = n)) : RelL S1 (r_X7_undone p0 T).2 := by
  rcases D with ⟨_, _, e, _⟩ | ⟨_, _, e, _⟩
  · rw [e]; exact rw_o (tu_undone _ T) hR
  · rw [e]; exact rw_o (tu_undone _ T) hR
theorem rk_comesBack {S S1 : sX} {T : sM} {k0 : Int32} {n n0 : Int64} {p0 : Int32} (hI : IM T) (hR : RelL S T) (D : (k0 = 0 ∧ (¬ p0 < -32 ∧ ¬ -5 < p0) ∧ S1 = S ∧ n0 = if (r_X5_comesBack p0 S) = 0 then 0 else 1) ∨ (k0 = 1 ∧ (p0 < -32 ∨ -5 < p0) ∧ S1 = S ∧ n0 = n)) : RelL S1 (r_X7_comesBack p0 T).2 := by
  rcases D with ⟨_, _, e, _⟩ | ⟨_, _, e, _⟩
  · rw [e]; exact rw_o (tu_comesBack _ T) hR
  · rw [e]; exact rw_o (tu_comesBack _ T) hR
theorem rk_comesForth {S S1 : sX} {T : sM} {k0 : Int32} {n n0 : Int64} {p0 : Int32} (hI : IM T) (hR : RelL S T) (D : (k0 = 0 ∧ (¬ p0 < (f_X4_firstQ 3) ∧ ¬ (f_X4_lastQ 3) < p0) ∧ S1 = S ∧ n0 = if (r_X5_comesForth p0 S) = 0 then 0 else 1) ∨ (k0 = 1 ∧ (p0 < (f_X4_firstQ 3) ∨ (f_X4_lastQ 3) < p0) ∧ S1 = S ∧ n0 = n)) : RelL S1 (r_X7_comesForth p0 T).2 := by
  rcases D with ⟨_, _, e, _⟩ | ⟨_, _, e, _⟩
  · rw [e]; exact rw_o (tu_comesForth _ T) hR
  · rw [e]; exact rw_o (tu_comesForth _ T) hR
theorem rk_opposite {S S1 : sX} {T : sM} {k0 : Int32} {n n0 : Int64} {p0 : Int32} (hI : IM T) (hR : RelL S T) (D : (k0 = 0 ∧ (¬ p0 < -160 ∧ ¬ 160 < p0) ∧ S1 = S ∧ n0 = if (r_X5_opposite p0 S) = 0 then 0 else 1) ∨ (k0 = 1 ∧ (p0 < -160 ∨ 160 < p0) ∧ S1 = S ∧ n0 = n)) : RelL S1 (r_X7_opposite p0 T).2 := by
  rcases D with ⟨_, _, e, _⟩ | ⟨_, _, e, _⟩
  · rw [e]; exact rw_o (tu_opposite _ T) hR
  · rw [e]; exact rw_o (tu_opposite _ T) hR
theorem rk_house {S S1 : sX} {T : sM} {k0 : Int32} {n n0 : Int64} {p0 : Int32} (hI : IM T) (hR : RelL S T) (D : (k0 = 0 ∧ (¬ p0 < 0 ∧ ¬ 4 < p0) ∧ S1 = S ∧ n0 = (r_X5_house p0 S).toInt64) ∨ (k0 = 1 ∧ (p0 < 0 ∨ 4 < p0) ∧ S1 = S ∧ n0 = n)) : RelL S1 (r_X7_house p0 T).2 := by
  rcases D with ⟨_, _, e, _⟩ | ⟨_, _, e, _⟩
  · rw [e]; exact rw_o (tu_house _ T) hR
  · rw [e]; exact rw_o (tu_house _ T) hR
theorem rk_knock {S : sX} {T : sM} (hI : IM T) (hR : RelL S T) : RelL (r_X5_knock S).2 (r_X7_knock T).2 := ⟨⟨hR.1.1, hR.1.2.1, hR.1.2.2.1, congrArg (fun x => x + 1) hR.1.2.2.2⟩, hR.2⟩
theorem rk_isSound {S : sX} {T : sM} (hI : IM T) (hR : RelL S T) : RelL S (r_X7_isSound T).2 := rw_o (tu_isSound T) hR
theorem rk_digest {S : sX} {T : sM} (hI : IM T) (hR : RelL S T) : RelL S (r_X7_digest T).2 := rw_o (tu_digest T) hR
theorem rl_0 : RelL (r_X5_init cX0) mS0 := by
  refine ⟨⟨fun c hc => ?_, fun c hc => ?_, by decide +kernel, by decide +kernel⟩, by decide +kernel⟩
  · have h : ∀ c : Nat, c < 8 → (r_X5_init cX0).1 c = enc 0 0 0 := by decide +kernel
    exact h c hc
  · have h : ∀ c : Nat, c < 8 → (r_X5_init cX0).2.1 c = f_X1_digitsOf ((r_X5_init cX0).1 c) := by decide +kernel
    exact h c hc
theorem ck_most {S S1 : sX} {T : sM} {k0 : Int32} {n n0 : Int64} {p0 p1 : Int32} (hI : IM T) (hR : Rw S T) (D : (k0 = 0 ∧ (¬ p0 < 0 ∧ ¬ 8 ≤ p0) ∧ (¬ p1 < 0 ∧ ¬ 8 ≤ p1) ∧ (¬ f_X2_areNear (S.1 p0.toNatClampNeg) (S.1 p1.toNatClampNeg) = 0) ∧ S1 = S ∧ n0 = (r_X5_most p0 p1 S).toInt64) ∨ (k0 = 1 ∧ (p0 < 0 ∨ 8 ≤ p0) ∧ S1 = S ∧ n0 = n) ∨ (k0 = 1 ∧ (¬ p0 < 0 ∧ ¬ 8 ≤ p0) ∧ (p1 < 0 ∨ 8 ≤ p1) ∧ S1 = S ∧ n0 = n) ∨ (k0 = 2 ∧ (¬ p0 < 0 ∧ ¬ 8 ≤ p0) ∧ (¬ p1 < 0 ∧ ¬ 8 ≤ p1) ∧ (f_X2_areNear (S.1 p0.toNatClampNeg) (S.1 p1.toNatClampNeg) = 0) ∧ S1 = S ∧ n0 = n)) : r_X7_thrown (r_X7_most p0 p1 T).2 = k0 ∧ (k0 = 0 → n0 = (r_X7_most p0 p1 T).1.toInt64) := by
  rcases D with ⟨rfl, g0, g1, gn, rfl, rfl⟩ | ⟨rfl, f0, rfl, rfl⟩ | ⟨rfl, g0, f1, rfl, rfl⟩ | ⟨rfl, g0, g1, fn, rfl, rfl⟩
  · have i0 := in8 g0
    have i1 := in8 g1
    have hI0 : IM (th 0 T) := im_th0 hI
    have hR0 : Rw0 S1 (th 0 T) := hR.1
    have nz : ¬ r_X7_areNear p0 p1 (th 0 T) = 0 := by rw [← near_S hR0 hI0 i0 i1]; exact gn
    obtain ⟨m1, m2, m3, m4⟩ := near_q (hI0 _ (vp_lt i0)) (hI0 _ (vp_lt i1)) nz
    have e : r_X7_most p0 p1 T = (mostT (T.2.1 p0.toNatClampNeg), th 0 T) := by
      have em : r_X7_most p0 p1 T = (mostT (T.2.1 p0.toNatClampNeg), th 0 T) := by
        unfold r_X7_most
        rw [none0 T g0 g1, q0c]
        refine (if_neg nz).trans ?_
        show (if T.2.1 p0.toNatClampNeg ≤ -4 then (_, th 0 T) else ((2 : Int32), th 0 T)) = _
        unfold mostT
        split <;> rfl
      exact em
    have e2 : r_X5_most p0 p1 S1 = mostT (T.2.1 p0.toNatClampNeg) := by
      unfold r_X5_most
      rw [hR.1.1 _ (vp_lt i0), (enc_v (hI _ (vp_lt i0))).2.1]
      have eq : qx (T.1 p0.toNatClampNeg) (T.2.1 p0.toNatClampNeg) (T.2.2.1 p0.toNatClampNeg) = T.2.1 p0.toNatClampNeg := by
        unfold qx
        exact if_neg m3
      rw [eq]
      exact m1
    rw [e, e2]
    exact ⟨rfl, fun _ => rfl⟩
  · have e : r_X7_most p0 p1 T = (0, th 1 T) := by
      unfold r_X7_most
      rw [none1 T f0, q1c]
      try rfl
    rw [e]
    exact ⟨rfl, fun h => absurd h (by decide)⟩
  · have e : r_X7_most p0 p1 T = (0, th 1 T) := by
      unfold r_X7_most
      rw [none2 T g0 f1, q1c]
      try rfl
    rw [e]
    exact ⟨rfl, fun h => absurd h (by decide)⟩
  · have i0 := in8 g0
    have i1 := in8 g1
    have hI0 : IM (th 0 T) := im_th0 hI
    have hR0 : Rw0 S1 (th 0 T) := hR.1
    have nz : r_X7_areNear p0 p1 (th 0 T) = 0 := by rw [← near_S hR0 hI0 i0 i1]; exact fn
    have em : r_X7_most p0 p1 T = (0, th 2 T) := by
      unfold r_X7_most
      rw [none0 T g0 g1, q0c]
      exact if_pos nz
    rw [em]
    exact ⟨rfl, fun h => absurd h (by decide)⟩
