abbrev RelL : sX → sM → Prop := Rw
theorem rk_quarter {S S1 : sX} {T : sM} {k0 : Int32} {n n0 : Int64} {p0 p1 : Int32} (hI : IM T) (hR : RelL S T) (D : (k0 = 0 ∧ (¬ p0 < 0 ∧ ¬ 8 ≤ p0) ∧ (¬ p1 < -160 ∧ ¬ 160 < p1) ∧ S1 = (r_X5_quarter p0 p1 S).2 ∧ n0 = (r_X5_quarter p0 p1 S).1.toInt64) ∨ (k0 = 1 ∧ (p0 < 0 ∨ 8 ≤ p0) ∧ S1 = S ∧ n0 = n) ∨ (k0 = 2 ∧ (¬ p0 < 0 ∧ ¬ 8 ≤ p0) ∧ (p1 < -160 ∨ 160 < p1) ∧ S1 = S ∧ n0 = n)) : RelL S1 (r_X7_quarter p0 p1 T).2 := (cw_quarter hI hR D).1
theorem rk_zero {S S1 : sX} {T : sM} {k0 : Int32} {n n0 : Int64} {p0 p1 : Int32} (hI : IM T) (hR : RelL S T) (D : (k0 = 0 ∧ (¬ p0 < 0 ∧ ¬ 8 ≤ p0) ∧ S1 = (r_X5_zero p0 (bz p1) S).2 ∧ n0 = (r_X5_zero p0 (bz p1) S).1.toInt64) ∨ (k0 = 1 ∧ (p0 < 0 ∨ 8 ≤ p0) ∧ S1 = S ∧ n0 = n)) : RelL S1 (r_X7_zero p0 (bz p1) T).2 := (cw_zero hI hR (bz01 p1) D).1
theorem rk_endless {S S1 : sX} {T : sM} {k0 : Int32} {n n0 : Int64} {p0 p1 : Int32} (hI : IM T) (hR : RelL S T) (D : (k0 = 0 ∧ (¬ p0 < 0 ∧ ¬ 8 ≤ p0) ∧ S1 = (r_X5_endless p0 (bz p1) S).2 ∧ n0 = (r_X5_endless p0 (bz p1) S).1.toInt64) ∨ (k0 = 1 ∧ (p0 < 0 ∨ 8 ≤ p0) ∧ S1 = S ∧ n0 = n)) : RelL S1 (r_X7_endless p0 (bz p1) T).2 := (cw_endless hI hR (bz01 p1) D).1
theorem rk_row {S S1 : sX} {T : sM} {k0 : Int32} {n n0 : Int64} {p0 p1 : Int32} (hI : IM T) (hR : RelL S T) (D : (k0 = 0 ∧ (¬ p0 < -160 ∧ ¬ 160 < p0) ∧ (¬ p1 < -40 ∧ ¬ 40 < p1) ∧ S1 = (r_X5_row p0 p1 S).2 ∧ n0 = (r_X5_row p0 p1 S).1.toInt64) ∨ (k0 = 1 ∧ (p0 < -160 ∨ 160 < p0) ∧ S1 = S ∧ n0 = n) ∨ (k0 = 1 ∧ (¬ p0 < -160 ∧ ¬ 160 < p0) ∧ (p1 < -40 ∨ 40 < p1) ∧ S1 = S ∧ n0 = n)) : RelL S1 (r_X7_row p0 p1 T).2 := (cw_row hI hR D).1
theorem rk_wipe {S : sX} {T : sM} (hI : IM T) (hR : RelL S T) : RelL (r_X5_wipe S).2 (r_X7_wipe T).2 := (rw_wipe hR hI).2
theorem rc_wipe {S : sX} {T : sM} (hI : IM T) (hR : RelL S T) : (r_X5_wipe S).1 = (r_X7_wipe T).1 := (rw_wipe hR hI).1
theorem rk_copy {S S1 : sX} {T : sM} {k0 : Int32} {n n0 : Int64} {p0 p1 : Int32} (hI : IM T) (hR : RelL S T) (D : (k0 = 0 ∧ (¬ p0 < 0 ∧ ¬ 8 ≤ p0) ∧ (¬ p1 < 0 ∧ ¬ 8 ≤ p1) ∧ S1 = (r_X5_copy p0 p1 S).2 ∧ n0 = (r_X5_copy p0 p1 S).1.toInt64) ∨ (k0 = 1 ∧ (p0 < 0 ∨ 8 ≤ p0) ∧ S1 = S ∧ n0 = n) ∨ (k0 = 1 ∧ (¬ p0 < 0 ∧ ¬ 8 ≤ p0) ∧ (p1 < 0 ∨ 8 ≤ p1) ∧ S1 = S ∧ n0 = n)) : RelL S1 (r_X7_copy p0 p1 T).2 := (cw_copy hI hR D).1
theorem rk_swap {S S1 : sX} {T : sM} {k0 : Int32} {n n0 : Int64} {p0 p1 : Int32} (hI : IM T) (hR : RelL S T) (D : (k0 = 0 ∧ (¬ p0 < 0 ∧ ¬ 8 ≤ p0) ∧ (¬ p1 < 0 ∧ ¬ 8 ≤ p1) ∧ S1 = (r_X5_swap p0 p1 S).2 ∧ n0 = (r_X5_swap p0 p1 S).1.toInt64) ∨ (k0 = 1 ∧ (p0 < 0 ∨ 8 ≤ p0) ∧ S1 = S ∧ n0 = n) ∨ (k0 = 1 ∧ (¬ p0 < 0 ∧ ¬ 8 ≤ p0) ∧ (p1 < 0 ∨ 8 ≤ p1) ∧ S1 = S ∧ n0 = n)) : RelL S1 (r_X7_swap p0 p1 T).2 := (cw_swap hI hR D).1
theorem rk_step {S S1 : sX} {T : sM} {k0 : Int32} {n n0 : Int64} {p0 p1 : Int32} (hI : IM T) (hR : RelL S T) (D : (k0 = 0 ∧ (¬ p0 < 0 ∧ ¬ 8 ≤ p0) ∧ (¬ p1 < -320 ∧ ¬ 320 < p1) ∧ S1 = (r_X5_step p0 p1 S).2 ∧ n0 = (r_X5_step p0 p1 S).1.toInt64) ∨ (k0 = 1 ∧ (p0 < 0 ∨ 8 ≤ p0) ∧ S1 = S ∧ n0 = n) ∨ (k0 = 2 ∧ (¬ p0 < 0 ∧ ¬ 8 ≤ p0) ∧ (p1 < -320 ∨ 320 < p1) ∧ S1 = S ∧ n0 = n)) : RelL S1 (r_X7_step p0 p1 T).2 := (cw_step hI hR D).1
theorem rk_turn {S S1 : sX} {T : sM} {k0 : Int32} {n n0 : Int64} {p0 : Int32} (hI : IM T) (hR : RelL S T) (D : (k0 = 0 ∧ (¬ p0 < 0 ∧ ¬ 8 ≤ p0) ∧ S1 = (r_X5_turn p0 S).2 ∧ n0 = (r_X5_turn p0 S).1.toInt64) ∨ (k0 = 1 ∧ (p0 < 0 ∨ 8 ≤ p0) ∧ S1 = S ∧ n0 = n)) : RelL S1 (r_X7_turn p0 T).2 := (cw_turn hI hR D).1
theorem rk_power {S S1 : sX} {T : sM} {k0 : Int32} {n n0 : Int64} {p0 p1 : Int32} (hI : IM T) (hR : RelL S T) (D : (k0 = 0 ∧ (¬ p0 < 0 ∧ ¬ 8 ≤ p0) ∧ (¬ p1 < 0 ∧ ¬ 8 ≤ p1) ∧ S1 = (r_X5_power p0 p1 S).2 ∧ n0 = (r_X5_power p0 p1 S).1.toInt64) ∨ (k0 = 1 ∧ (p0 < 0 ∨ 8 ≤ p0) ∧ S1 = S ∧ n0 = n) ∨ (k0 = 1 ∧ (¬ p0 < 0 ∧ ¬ 8 ≤ p0) ∧ (p1 < 0 ∨ 8 ≤ p1) ∧ S1 = S ∧ n0 = n)) : RelL S1 (r_X7_power p0 p1 T).2 := (cw_power hI hR D).1
theorem rk_lessen {S S1 : sX} {T : sM} {k0 : Int32} {n n0 : Int64} {p0 p1 : Int32} (hI : IM T) (hR : RelL S T) (D : (k0 = 0 ∧ (¬ p0 < 0 ∧ ¬ 8 ≤ p0) ∧ (¬ p1 < 0 ∧ ¬ 8 ≤ p1) ∧ S1 = (r_X5_lessen p0 p1 S).2 ∧ n0 = (r_X5_lessen p0 p1 S).1.toInt64) ∨ (k0 = 1 ∧ (p0 < 0 ∨ 8 ≤ p0) ∧ S1 = S ∧ n0 = n) ∨ (k0 = 1 ∧ (¬ p0 < 0 ∧ ¬ 8 ≤ p0) ∧ (p1 < 0 ∨ 8 ≤ p1) ∧ S1 = S ∧ n0 = n)) : RelL S1 (r_X7_lessen p0 p1 T).2 := (cw_lessen hI hR D).1
theorem rk_log {S S1 : sX} {T : sM} {k0 : Int32} {n n0 : Int64} {p0 p1 : Int32} (hI : IM T) (hR : RelL S T) (D : (k0 = 0 ∧ (¬ p0 < 0 ∧ ¬ 8 ≤ p0) ∧ (¬ p1 < 0 ∧ ¬ 8 ≤ p1) ∧ S1 = (r_X5_log p0 p1 S).2 ∧ n0 = (r_X5_log p0 p1 S).1.toInt64) ∨ (k0 = 1 ∧ (p0 < 0 ∨ 8 ≤ p0) ∧ S1 = S ∧ n0 = n) ∨ (k0 = 1 ∧ (¬ p0 < 0 ∧ ¬ 8 ≤ p0) ∧ (p1 < 0 ∨ 8 ≤ p1) ∧ S1 = S ∧ n0 = n)) : RelL S1 (r_X7_log p0 p1 T).2 := (cw_log hI hR D).1
theorem rk_all {S S1 : sX} {T : sM} {k0 : Int32} {n n0 : Int64} {p0 : Int32} (hI : IM T) (hR : RelL S T) (D : (k0 = 0 ∧ (¬ p0 < 1 ∧ ¬ 3 < p0) ∧ S1 = (r_X5_all p0 S).2 ∧ n0 = (r_X5_all p0 S).1.toInt64) ∨ (k0 = 1 ∧ (p0 < 1 ∨ 3 < p0) ∧ S1 = S ∧ n0 = n)) : RelL S1 (r_X7_all p0 T).2 := (cw_all hI hR D).1
theorem rk_greater {S S1 : sX} {T : sM} {k0 : Int32} {n n0 : Int64} {p0 p1 p2 : Int32} (hI : IM T) (hR : RelL S T) (D : (k0 = 0 ∧ (¬ p0 < 0 ∧ ¬ 8 ≤ p0) ∧ (¬ p1 < 0 ∧ ¬ 8 ≤ p1) ∧ (¬ p2 < 0 ∧ ¬ 8 ≤ p2) ∧ S1 = (r_X5_greater p0 p1 p2 S).2 ∧ n0 = (r_X5_greater p0 p1 p2 S).1.toInt64) ∨ (k0 = 1 ∧ (p0 < 0 ∨ 8 ≤ p0) ∧ S1 = S ∧ n0 = n) ∨ (k0 = 1 ∧ (¬ p0 < 0 ∧ ¬ 8 ≤ p0) ∧ (p1 < 0 ∨ 8 ≤ p1) ∧ S1 = S ∧ n0 = n) ∨ (k0 = 1 ∧ (¬ p0 < 0 ∧ ¬ 8 ≤ p0) ∧ (¬ p1 < 0 ∧ ¬ 8 ≤ p1) ∧ (p2 < 0 ∨ 8 ≤ p2) ∧ S1 = S ∧ n0 = n)) : RelL S1 (r_X7_greater p0 p1 p2 T).2 := (cw_greater hI hR D).1
theorem rk_lesser {S S1 : sX} {T : sM} {k0 : Int32} {n n0 : Int64} {p0 p1 p2 : Int32} (hI : IM T) (hR : RelL S T) (D : (k0 = 0 ∧ (¬ p0 < 0 ∧ ¬ 8 ≤ p0) ∧ (¬ p1 < 0 ∧ ¬ 8 ≤ p1) ∧ (¬ p2 < 0 ∧ ¬ 8 ≤ p2) ∧ S1 = (r_X5_lesser p0 p1 p2 S).2 ∧ n0 = (r_X5_lesser p0 p1 p2 S).1.toInt64) ∨ (k0 = 1 ∧ (p0 < 0 ∨ 8 ≤ p0) ∧ S1 = S ∧ n0 = n) ∨ (k0 = 1 ∧ (¬ p0 < 0 ∧ ¬ 8 ≤ p0) ∧ (p1 < 0 ∨ 8 ≤ p1) ∧ S1 = S ∧ n0 = n) ∨ (k0 = 1 ∧ (¬ p0 < 0 ∧ ¬ 8 ≤ p0) ∧ (¬ p1 < 0 ∧ ¬ 8 ≤ p1) ∧ (p2 < 0 ∨ 8 ≤ p2) ∧ S1 = S ∧ n0 = n)) : RelL S1 (r_X7_lesser p0 p1 p2 T).2 := (cw_lesser hI hR D).1
theorem rk_end {S S1 : sX} {T : sM} {k0 : Int32} {n n0 : Int64} {p0 p1 : Int32} (hI : IM T) (hR : RelL S T) (D : (k0 = 0 ∧ (¬ p1 < 0 ∧ ¬ 8 ≤ p1) ∧ S1 = (r_X5_end p0 p1 S).2 ∧ n0 = (r_X5_end p0 p1 S).1.toInt64) ∨ (k0 = 1 ∧ (p1 < 0 ∨ 8 ≤ p1) ∧ S1 = S ∧ n0 = n)) : RelL S1 (r_X7_end p0 p1 T).2 := (cw_end hI hR D).1
theorem rk_sort {S : sX} {T : sM} (hI : IM T) (hR : RelL S T) : RelL (r_X5_sort S).2 (r_X7_sort T).2 := (rw_sort hR hI).2
theorem rc_sort {S : sX} {T : sM} (hI : IM T) (hR : RelL S T) : (r_X5_sort S).1 = (r_X7_sort T).1 := (rw_sort hR hI).1
theorem rk_kind {S S1 : sX} {T : sM} {k0 : Int32} {n n0 : Int64} {p0 : Int32} (hI : IM T) (hR : RelL S T) (D : (k0 = 0 ∧ (¬ p0 < 0 ∧ ¬ 8 ≤ p0) ∧ S1 = S ∧ n0 = (r_X5_kind p0 S).toInt64) ∨ (k0 = 1 ∧ (p0 < 0 ∨ 8 ≤ p0) ∧ S1 = S ∧ n0 = n)) : RelL S1 (r_X7_kind p0 T).2 := by
  rcases D with ⟨_, _, e, _⟩ | ⟨_, _, e, _⟩
  · rw [e]; exact rw_o (tu_kind _ T) hR
  · rw [e]; exact rw_o (tu_kind _ T) hR
theorem rk_of {S S1 : sX} {T : sM} {k0 : Int32} {n n0 : Int64} {p0 : Int32} (hI : IM T) (hR : RelL S T) (D : (k0 = 0 ∧ (¬ p0 < 0 ∧ ¬ 8 ≤ p0) ∧ S1 = S ∧ n0 = (r_X5_of p0 S).toInt64) ∨ (k0 = 1 ∧ (p0 < 0 ∨ 8 ≤ p0) ∧ S1 = S ∧ n0 = n)) : RelL S1 (r_X7_of p0 T).2 := by
  rcases D with ⟨_, _, e, _⟩ | ⟨_, _, e, _⟩
  · rw [e]; exact rw_o (tu_of _ T) hR
  · rw [e]; exact rw_o (tu_of _ T) hR
theorem rk_isBelow {S S1 : sX} {T : sM} {k0 : Int32} {n n0 : Int64} {p0 : Int32} (hI : IM T) (hR : RelL S T) (D : (k0 = 0 ∧ (¬ p0 < 0 ∧ ¬ 8 ≤ p0) ∧ S1 = S ∧ n0 = if (r_X5_isBelow p0 S) = 0 then 0 else 1) ∨ (k0 = 1 ∧ (p0 < 0 ∨ 8 ≤ p0) ∧ S1 = S ∧ n0 = n)) : RelL S1 (r_X7_isBelow p0 T).2 := by
  rcases D with ⟨_, _, e, _⟩ | ⟨_, _, e, _⟩
  · rw [e]; exact rw_o (tu_isBelow _ T) hR
  · rw [e]; exact rw_o (tu_isBelow _ T) hR
theorem rk_isZero {S S1 : sX} {T : sM} {k0 : Int32} {n n0 : Int64} {p0 : Int32} (hI : IM T) (hR : RelL S T) (D : (k0 = 0 ∧ (¬ p0 < 0 ∧ ¬ 8 ≤ p0) ∧ S1 = S ∧ n0 = if (r_X5_isZero p0 S) = 0 then 0 else 1) ∨ (k0 = 1 ∧ (p0 < 0 ∨ 8 ≤ p0) ∧ S1 = S ∧ n0 = n)) : RelL S1 (r_X7_isZero p0 T).2 := by
  rcases D with ⟨_, _, e, _⟩ | ⟨_, _, e, _⟩
  · rw [e]; exact rw_o (tu_isZero _ T) hR
  · rw [e]; exact rw_o (tu_isZero _ T) hR
theorem rk_isEndless {S S1 : sX} {T : sM} {k0 : Int32} {n n0 : Int64} {p0 : Int32} (hI : IM T) (hR : RelL S T) (D : (k0 = 0 ∧ (¬ p0 < 0 ∧ ¬ 8 ≤ p0) ∧ S1 = S ∧ n0 = if (r_X5_isEndless p0 S) = 0 then 0 else 1) ∨ (k0 = 1 ∧ (p0 < 0 ∨ 8 ≤ p0) ∧ S1 = S ∧ n0 = n)) : RelL S1 (r_X7_isEndless p0 T).2 := by
  rcases D with ⟨_, _, e, _⟩ | ⟨_, _, e, _⟩
  · rw [e]; exact rw_o (tu_isEndless _ T) hR
  · rw [e]; exact rw_o (tu_isEndless _ T) hR
theorem rk_whole {S S1 : sX} {T : sM} {k0 : Int32} {n n0 : Int64} {p0 p1 : Int32} (hI : IM T) (hR : RelL S T) (D : (k0 = 0 ∧ (¬ p0 < 0 ∧ ¬ 8 ≤ p0) ∧ (¬ p1 < -62 ∧ ¬ 90 < p1) ∧ (¬ f_X2_hasWhole (S.1 p0.toNatClampNeg) = 0) ∧ (¬ (f_X1_roundedDown (S.2.1 p0.toNatClampNeg) p1) < -2147483648 ∧ ¬ 2147483647 < (f_X1_roundedDown (S.2.1 p0.toNatClampNeg) p1)) ∧ S1 = S ∧ n0 = (r_X5_whole p0 p1 S).toInt64) ∨ (k0 = 1 ∧ (p0 < 0 ∨ 8 ≤ p0) ∧ S1 = S ∧ n0 = n) ∨ (k0 = 2 ∧ (¬ p0 < 0 ∧ ¬ 8 ≤ p0) ∧ (p1 < -62 ∨ 90 < p1) ∧ S1 = S ∧ n0 = n) ∨ (k0 = 3 ∧ (¬ p0 < 0 ∧ ¬ 8 ≤ p0) ∧ (¬ p1 < -62 ∧ ¬ 90 < p1) ∧ (f_X2_hasWhole (S.1 p0.toNatClampNeg) = 0) ∧ S1 = S ∧ n0 = n) ∨ (k0 = 3 ∧ (¬ p0 < 0 ∧ ¬ 8 ≤ p0) ∧ (¬ p1 < -62 ∧ ¬ 90 < p1) ∧ (¬ f_X2_hasWhole (S.1 p0.toNatClampNeg) = 0) ∧ ((f_X1_roundedDown (S.2.1 p0.toNatClampNeg) p1) < -2147483648 ∨ 2147483647 < (f_X1_roundedDown (S.2.1 p0.toNatClampNeg) p1)) ∧ S1 = S ∧ n0 = n)) : RelL S1 (r_X7_whole p0 p1 T).2 := by
  rcases D with ⟨_, _, _, _, _, e, _⟩ | ⟨_, _, e, _⟩ | ⟨_, _, _, e, _⟩ | ⟨_, _, _, _, e, _⟩ | ⟨_, _, _, _, _, e, _⟩
  · rw [e]; exact rw_o (tu_whole _ _ T) hR
  · rw [e]; exact rw_o (tu_whole _ _ T) hR
  · rw [e]; exact rw_o (tu_whole _ _ T) hR
  · rw [e]; exact rw_o (tu_whole _ _ T) hR
  · rw [e]; exact rw_o (tu_whole _ _ T) hR
theorem rk_height {S S1 : sX} {T : sM} {k0 : Int32} {n n0 : Int64} {p0 : Int32} (hI : IM T) (hR : RelL S T) (D : (k0 = 0 ∧ (¬ p0 < 0 ∧ ¬ 8 ≤ p0) ∧ (¬ f_X2_hasHeight (S.1 p0.toNatClampNeg) = 0) ∧ S1 = S ∧ n0 = (r_X5_height p0 S).toInt64) ∨ (k0 = 1 ∧ (p0 < 0 ∨ 8 ≤ p0) ∧ S1 = S ∧ n0 = n) ∨ (k0 = 2 ∧ (¬ p0 < 0 ∧ ¬ 8 ≤ p0) ∧ (f_X2_hasHeight (S.1 p0.toNatClampNeg) = 0) ∧ S1 = S ∧ n0 = n)) : RelL S1 (r_X7_height p0 T).2 := by
  rcases D with ⟨_, _, _, e, _⟩ | ⟨_, _, e, _⟩ | ⟨_, _, _, e, _⟩
  · rw [e]; exact rw_o (tu_height _ T) hR
  · rw [e]; exact rw_o (tu_height _ T) hR
  · rw [e]; exact rw_o (tu_height _ T) hR
theorem rk_digits {S S1 : sX} {T : sM} {k0 : Int32} {n n0 : Int64} {p0 : Int32} (hI : IM T) (hR : RelL S T) (D : (k0 = 0 ∧ (¬ p0 < 0 ∧ ¬ 8 ≤ p0) ∧ (¬ f_X2_hasHeight (S.1 p0.toNatClampNeg) = 0) ∧ S1 = S ∧ n0 = (r_X5_digits p0 S).toInt64) ∨ (k0 = 1 ∧ (p0 < 0 ∨ 8 ≤ p0) ∧ S1 = S ∧ n0 = n) ∨ (k0 = 2 ∧ (¬ p0 < 0 ∧ ¬ 8 ≤ p0) ∧ (f_X2_hasHeight (S.1 p0.toNatClampNeg) = 0) ∧ S1 = S ∧ n0 = n)) : RelL S1 (r_X7_digits p0 T).2 := by
  rcases D with ⟨_, _, _, e, _⟩ | ⟨_, _, e, _⟩ | ⟨_, _, _, e, _⟩
  · rw [e]; exact rw_o (tu_digits _ T) hR
  · rw [e]; exact rw_o (tu_digits _ T) hR
  · rw [e]; exact rw_o (tu_digits _ T) hR
theorem rk_upper {S S1 : sX} {T : sM} {k0 : Int32} {n n0 : Int64} {p0 : Int32} (hI : IM T) (hR : RelL S T) (D : (k0 = 0 ∧ (¬ p0 < 0 ∧ ¬ 8 ≤ p0) ∧ (¬ f_X2_hasToldDigits (S.1 p0.toNatClampNeg) = 0) ∧ S1 = S ∧ n0 = (r_X5_upper p0 S).toInt64) ∨ (k0 = 1 ∧ (p0 < 0 ∨ 8 ≤ p0) ∧ S1 = S ∧ n0 = n) ∨ (k0 = 2 ∧ (¬ p0 < 0 ∧ ¬ 8 ≤ p0) ∧ (f_X2_hasToldDigits (S.1 p0.toNatClampNeg) = 0) ∧ S1 = S ∧ n0 = n)) : RelL S1 (r_X7_upper p0 T).2 := by
  rcases D with ⟨_, _, _, e, _⟩ | ⟨_, _, e, _⟩ | ⟨_, _, _, e, _⟩
  · rw [e]; exact rw_o (tu_upper _ T) hR
  · rw [e]; exact rw_o (tu_upper _ T) hR
  · rw [e]; exact rw_o (tu_upper _ T) hR
theorem rk_lower {S S1 : sX} {T : sM} {k0 : Int32} {n n0 : Int64} {p0 : Int32} (hI : IM T) (hR : RelL S T) (D : (k0 = 0 ∧ (¬ p0 < 0 ∧ ¬ 8 ≤ p0) ∧ (¬ f_X2_hasToldDigits (S.1 p0.toNatClampNeg) = 0) ∧ S1 = S ∧ n0 = (r_X5_lower p0 S).toInt64) ∨ (k0 = 1 ∧ (p0 < 0 ∨ 8 ≤ p0) ∧ S1 = S ∧ n0 = n) ∨ (k0 = 2 ∧ (¬ p0 < 0 ∧ ¬ 8 ≤ p0) ∧ (f_X2_hasToldDigits (S.1 p0.toNatClampNeg) = 0) ∧ S1 = S ∧ n0 = n)) : RelL S1 (r_X7_lower p0 T).2 := by
  rcases D with ⟨_, _, _, e, _⟩ | ⟨_, _, e, _⟩ | ⟨_, _, _, e, _⟩
  · rw [e]; exact rw_o (tu_lower _ T) hR
  · rw [e]; exact rw_o (tu_lower _ T) hR
  · rw [e]; exact rw_o (tu_lower _ T) hR
theorem rk_text {S : sX} {T : sM} {p0 : Int32} (hI : IM T) (hR : RelL S T) : RelL S (r_X7_isRefused (f_X7_isNoCell p0) 0 T).2 := rw_o (tq_isRefused _ _ T) hR
theorem rk_order {S S1 : sX} {T : sM} {k0 : Int32} {n n0 : Int64} {p0 p1 : Int32} (hI : IM T) (hR : RelL S T) (D : (k0 = 0 ∧ (¬ p0 < 0 ∧ ¬ 8 ≤ p0) ∧ (¬ p1 < 0 ∧ ¬ 8 ≤ p1) ∧ S1 = S ∧ n0 = (r_X5_order p0 p1 S).toInt64) ∨ (k0 = 1 ∧ (p0 < 0 ∨ 8 ≤ p0) ∧ S1 = S ∧ n0 = n) ∨ (k0 = 1 ∧ (¬ p0 < 0 ∧ ¬ 8 ≤ p0) ∧ (p1 < 0 ∨ 8 ≤ p1) ∧ S1 = S ∧ n0 = n)) : RelL S1 (r_X7_order p0 p1 T).2 := by
  rcases D with ⟨_, _, _, e, _⟩ | ⟨_, _, e, _⟩ | ⟨_, _, _, e, _⟩
  · rw [e]; exact rw_o (tu_order _ _ T) hR
  · rw [e]; exact rw_o (tu_order _ _ T) hR
  · rw [e]; exact rw_o (tu_order _ _ T) hR
theorem rk_isAlike {S S1 : sX} {T : sM} {k0 : Int32} {n n0 : Int64} {p0 p1 : Int32} (hI : IM T) (hR : RelL S T) (D : (k0 = 0 ∧ (¬ p0 < 0 ∧ ¬ 8 ≤ p0) ∧ (¬ p1 < 0 ∧ ¬ 8 ≤ p1) ∧ S1 = S ∧ n0 = if (r_X5_isAlike p0 p1 S) = 0 then 0 else 1) ∨ (k0 = 1 ∧ (p0 < 0 ∨ 8 ≤ p0) ∧ S1 = S ∧ n0 = n) ∨ (k0 = 1 ∧ (¬ p0 < 0 ∧ ¬ 8 ≤ p0) ∧ (p1 < 0 ∨ 8 ≤ p1) ∧ S1 = S ∧ n0 = n)) : RelL S1 (r_X7_isAlike p0 p1 T).2 := by
  rcases D with ⟨_, _, _, e, _⟩ | ⟨_, _, e, _⟩ | ⟨_, _, _, e, _⟩
  · rw [e]; exact rw_o (tu_isAlike _ _ T) hR
  · rw [e]; exact rw_o (tu_isAlike _ _ T) hR
  · rw [e]; exact rw_o (tu_isAlike _ _ T) hR
theorem rk_isNear {S S1 : sX} {T : sM} {k0 : Int32} {n n0 : Int64} {p0 p1 : Int32} (hI : IM T) (hR : RelL S T) (D : (k0 = 0 ∧ (¬ p0 < 0 ∧ ¬ 8 ≤ p0) ∧ (¬ p1 < 0 ∧ ¬ 8 ≤ p1) ∧ S1 = S ∧ n0 = if (r_X5_isNear p0 p1 S) = 0 then 0 else 1) ∨ (k0 = 1 ∧ (p0 < 0 ∨ 8 ≤ p0) ∧ S1 = S ∧ n0 = n) ∨ (k0 = 1 ∧ (¬ p0 < 0 ∧ ¬ 8 ≤ p0) ∧ (p1 < 0 ∨ 8 ≤ p1) ∧ S1 = S ∧ n0 = n)) : RelL S1 (r_X7_isNear p0 p1 T).2 := by
  rcases D with ⟨_, _, _, e, _⟩ | ⟨_, _, e, _⟩ | ⟨_, _, _, e, _⟩
  · rw [e]; exact rw_o (tu_isNear _ _ T) hR
  · rw [e]; exact rw_o (tu_isNear _ _ T) hR
  · rw [e]; exact rw_o (tu_isNear _ _ T) hR
theorem rk_most {S S1 : sX} {T : sM} {k0 : Int32} {n n0 : Int64} {p0 p1 : Int32} (hI : IM T) (hR : RelL S T) (D : (k0 = 0 ∧ (¬ p0 < 0 ∧ ¬ 8 ≤ p0) ∧ (¬ p1 < 0 ∧ ¬ 8 ≤ p1) ∧ (¬ f_X2_areNear (S.1 p0.toNatClampNeg) (S.1 p1.toNatClampNeg) = 0) ∧ S1 = S ∧ n0 = (r_X5_most p0 p1 S).toInt64) ∨ (k0 = 1 ∧ (p0 < 0 ∨ 8 ≤ p0) ∧ S1 = S ∧ n0 = n) ∨ (k0 = 1 ∧ (¬ p0 < 0 ∧ ¬ 8 ≤ p0) ∧ (p1 < 0 ∨ 8 ≤ p1) ∧ S1 = S ∧ n0 = n) ∨ (k0 = 2 ∧ (¬ p0 < 0 ∧ ¬ 8 ≤ p0) ∧ (¬ p1 < 0 ∧ ¬ 8 ≤ p1) ∧ (f_X2_areNear (S.1 p0.toNatClampNeg) (S.1 p1.toNatClampNeg) = 0) ∧ S1 = S ∧ n0 = n)) : RelL S1 (r_X7_most p0 p1 T).2 := by
  rcases D with ⟨_, _, _, _, e, _⟩ | ⟨_, _, e, _⟩ | ⟨_, _, _, e, _⟩ | ⟨_, _, _, _, e, _⟩
  · rw [e]; exact rw_o (tu_most _ _ T) hR
  · rw [e]; exact rw_o (tu_most _ _ T) hR
  · rw [e]; exact rw_o (tu_most _ _ T) hR
  · rw [e]; exact rw_o (tu_most _ _ T) hR
theorem rk_isWithin {S S1 : sX} {T : sM} {k0 : Int32} {n n0 : Int64} {p0 p1 : Int32} (hI : IM T) (hR : RelL S T) (D : (k0 = 0 ∧ (¬ p0 < 0 ∧ ¬ 8 ≤ p0) ∧ (¬ p1 < 0 ∧ ¬ 8 ≤ p1) ∧ (¬ f_X2_areNear (S.1 p0.toNatClampNeg) (S.1 p1.toNatClampNeg) = 0) ∧ S1 = S ∧ n0 = if (r_X5_isWithin p0 p1 S) = 0 then 0 else 1) ∨ (k0 = 1 ∧ (p0 < 0 ∨ 8 ≤ p0) ∧ S1 = S ∧ n0 = n) ∨ (k0 = 1 ∧ (¬ p0 < 0 ∧ ¬ 8 ≤ p0) ∧ (p1 < 0 ∨ 8 ≤ p1) ∧ S1 = S ∧ n0 = n) ∨ (k0 = 2 ∧ (¬ p0 < 0 ∧ ¬ 8 ≤ p0) ∧ (¬ p1 < 0 ∧ ¬ 8 ≤ p1) ∧ (f_X2_areNear (S.1 p0.toNatClampNeg) (S.1 p1.toNatClampNeg) = 0) ∧ S1 = S ∧ n0 = n)) : RelL S1 (r_X7_isWithin p0 p1 T).2 := by
  rcases D with ⟨_, _, _, _, e, _⟩ | ⟨_, _, e, _⟩ | ⟨_, _, _, e, _⟩ | ⟨_, _, _, _, e, _⟩
  · rw [e]; exact rw_o (tu_isWithin _ _ T) hR
  · rw [e]; exact rw_o (tu_isWithin _ _ T) hR
  · rw [e]; exact rw_o (tu_isWithin _ _ T) hR
  · rw [e]; exact rw_o (tu_isWithin _ _ T) hR
theorem rk_find {S S1 : sX} {T : sM} {k0 : Int32} {n n0 : Int64} {p0 p1 : Int32} (hI : IM T) (hR : RelL S T) (D : (k0 = 0 ∧ (¬ p0 < 0 ∧ ¬ 8 ≤ p0) ∧ S1 = S ∧ n0 = (r_X5_find p0 p1 S).toInt64) ∨ (k0 = 1 ∧ (p0 < 0 ∨ 8 ≤ p0) ∧ S1 = S ∧ n0 = n)) : RelL S1 (r_X7_find p0 p1 T).2 := by
  rcases D with ⟨_, _, e, _⟩ | ⟨_, _, e, _⟩
  · rw [e]; exact rw_o (tu_find _ _ T) hR
  · rw [e]; exact rw_o (tu_find _ _ T) hR
theorem rk_rank {S S1 : sX} {T : sM} {k0 : Int32} {n n0 : Int64} {p0 : Int32} (hI : IM T) (hR : RelL S T) (D : (k0 = 0 ∧ (¬ p0 < 0 ∧ ¬ 8 ≤ p0) ∧ S1 = S ∧ n0 = (r_X5_rank p0 S).toInt64) ∨ (k0 = 1 ∧ (p0 < 0 ∨ 8 ≤ p0) ∧ S1 = S ∧ n0 = n)) : RelL S1 (r_X7_rank p0 T).2 := by
  rcases D with ⟨_, _, e, _⟩ | ⟨_, _, e, _⟩
  · rw [e]; exact rw_o (tu_rank _ T) hR
  · rw [e]; exact rw_o (tu_rank _ T) hR
theorem rk_before {S S1 : sX} {T : sM} {k0 : Int32} {n n0 : Int64} {p0 p1 : Int32} (hI : IM T) (hR : RelL S T) (D : (k0 = 0 ∧ (¬ p1 < 0 ∧ ¬ 8 ≤ p1) ∧ (¬ p0 < 0 ∧ ¬ 3 < p0) ∧ S1 = S ∧ n0 = (r_X5_before p0 p1 S).toInt64) ∨ (k0 = 1 ∧ (p1 < 0 ∨ 8 ≤ p1) ∧ S1 = S ∧ n0 = n) ∨ (k0 = 2 ∧ (¬ p1 < 0 ∧ ¬ 8 ≤ p1) ∧ (p0 < 0 ∨ 3 < p0) ∧ S1 = S ∧ n0 = n)) : RelL S1 (r_X7_before p0 p1 T).2 := by
  rcases D with ⟨_, _, _, e, _⟩ | ⟨_, _, e, _⟩ | ⟨_, _, _, e, _⟩
  · rw [e]; exact rw_o (tu_before _ _ T) hR
  · rw [e]; exact rw_o (tu_before _ _ T) hR
  · rw [e]; exact rw_o (tu_before _ _ T) hR
theorem rk_answer {S S1 : sX} {T : sM} {k0 : Int32} {n n0 : Int64} {p0 p1 p2 : Int32} (hI : IM T) (hR : RelL S T) (D : (k0 = 0 ∧ (¬ p0 < 1 ∧ ¬ 3 < p0) ∧ (¬ p1 < (f_X4_firstQ p0) ∧ ¬ (f_X4_lastQ p0) < p1) ∧ (¬ p2 < -62 ∧ ¬ 90 < p2) ∧ (¬ (f_X1_roundedDown (f_X4_digitsAt p0 p1) p2) < -2147483648 ∧ ¬ 2147483647 < (f_X1_roundedDown (f_X4_digitsAt p0 p1) p2)) ∧ S1 = S ∧ n0 = (r_X5_answer p0 p1 p2 S).toInt64) ∨ (k0 = 1 ∧ (p0 < 1 ∨ 3 < p0) ∧ S1 = S ∧ n0 = n) ∨ (k0 = 1 ∧ (¬ p0 < 1 ∧ ¬ 3 < p0) ∧ (p1 < (f_X4_firstQ p0) ∨ (f_X4_lastQ p0) < p1) ∧ S1 = S ∧ n0 = n) ∨ (k0 = 1 ∧ (¬ p0 < 1 ∧ ¬ 3 < p0) ∧ (¬ p1 < (f_X4_firstQ p0) ∧ ¬ (f_X4_lastQ p0) < p1) ∧ (p2 < -62 ∨ 90 < p2) ∧ S1 = S ∧ n0 = n) ∨ (k0 = 2 ∧ (¬ p0 < 1 ∧ ¬ 3 < p0) ∧ (¬ p1 < (f_X4_firstQ p0) ∧ ¬ (f_X4_lastQ p0) < p1) ∧ (¬ p2 < -62 ∧ ¬ 90 < p2) ∧ ((f_X1_roundedDown (f_X4_digitsAt p0 p1) p2) < -2147483648 ∨ 2147483647 < (f_X1_roundedDown (f_X4_digitsAt p0 p1) p2)) ∧ S1 = S ∧ n0 = n)) : RelL S1 (r_X7_answer p0 p1 p2 T).2 := by
  rcases D with ⟨_, _, _, _, _, e, _⟩ | ⟨_, _, e, _⟩ | ⟨_, _, _, e, _⟩ | ⟨_, _, _, _, e, _⟩ | ⟨_, _, _, _, _, e, _⟩
  · rw [e]; exact rw_o (tu_answer _ _ _ T) hR
  · rw [e]; exact rw_o (tu_answer _ _ _ T) hR
  · rw [e]; exact rw_o (tu_answer _ _ _ T) hR
  · rw [e]; exact rw_o (tu_answer _ _ _ T) hR
  · rw [e]; exact rw_o (tu_answer _ _ _ T) hR
theorem rk_below {S S1 : sX} {T : sM} {k0 : Int32} {n n0 : Int64} {p0 p1 p2 : Int32} (hI : IM T) (hR : RelL S T) (D : (k0 = 0 ∧ (¬ p0 < 0 ∧ ¬ 3 < p0) ∧ (¬ p2 < -62 ∧ ¬ 90 < p2) ∧ S1 = S ∧ n0 = (r_X5_below p0 p1 p2 S).toInt64) ∨ (k0 = 1 ∧ (p0 < 0 ∨ 3 < p0) ∧ S1 = S ∧ n0 = n) ∨ (k0 = 1 ∧ (¬ p0 < 0 ∧ ¬ 3 < p0) ∧ (p2 < -62 ∨ 90 < p2) ∧ S1 = S ∧ n0 = n)) : RelL S1 (r_X7_below p0 p1 p2 T).2 := by
  rcases D with ⟨_, _, _, e, _⟩ | ⟨_, _, e, _⟩ | ⟨_, _, _, e, _⟩
  · rw [e]; exact rw_o (tu_below _ _ _ T) hR
  · rw [e]; exact rw_o (tu_below _ _ _ T) hR
  · rw [e]; exact rw_o (tu_below _ _ _ T) hR
theorem rk_rises {S S1 : sX} {T : sM} {k0 : Int32} {n n0 : Int64} {p0 p1 p2 : Int32} (hI : IM T) (hR : RelL S T) (D : (k0 = 0 ∧ (¬ p0 < 0 ∧ ¬ 3 < p0) ∧ (¬ p1 < (f_X4_firstQ p0) ∧ ¬ (f_X4_lastQ p0) < p1) ∧ (¬ p2 < p1 ∧ ¬ (f_X4_lastQ p0) < p2) ∧ S1 = S ∧ n0 = if (r_X5_rises p0 p1 p2 S) = 0 then 0 else 1) ∨ (k0 = 1 ∧ (p0 < 0 ∨ 3 < p0) ∧ S1 = S ∧ n0 = n) ∨ (k0 = 1 ∧ (¬ p0 < 0 ∧ ¬ 3 < p0) ∧ (p1 < (f_X4_firstQ p0) ∨ (f_X4_lastQ p0) < p1) ∧ S1 = S ∧ n0 = n) ∨ (k0 = 1 ∧ (¬ p0 < 0 ∧ ¬ 3 < p0) ∧ (¬ p1 < (f_X4_firstQ p0) ∧ ¬ (f_X4_lastQ p0) < p1) ∧ (p2 < p1 ∨ (f_X4_lastQ p0) < p2) ∧ S1 = S ∧ n0 = n)) : RelL S1 (r_X7_rises p0 p1 p2 T).2 := by
  rcases D with ⟨_, _, _, _, e, _⟩ | ⟨_, _, e, _⟩ | ⟨_, _, _, e, _⟩ | ⟨_, _, _, _, e, _⟩
  · rw [e]; exact rw_o (tu_rises _ _ _ T) hR
  · rw [e]; exact rw_o (tu_rises _ _ _ T) hR
  · rw [e]; exact rw_o (tu_rises _ _ _ T) hR
  · rw [e]; exact rw_o (tu_rises _ _ _ T) hR
theorem rk_between {S S1 : sX} {T : sM} {k0 : Int32} {n n0 : Int64} {p0 : Int32} (hI : IM T) (hR : RelL S T) (D : (k0 = 0 ∧ (¬ p0 < (f_X4_firstQ 2) ∧ ¬ (f_X4_lastQ 2) < p0) ∧ S1 = S ∧ n0 = if (r_X5_between p0 S) = 0 then 0 else 1) ∨ (k0 = 1 ∧ (p0 < (f_X4_firstQ 2) ∨ (f_X4_lastQ 2) < p0) ∧ S1 = S ∧ n0 = n)) : RelL S1 (r_X7_between p0 T).2 := by
  rcases D with ⟨_, _, e, _⟩ | ⟨_, _, e, _⟩
  · rw [e]; exact rw_o (tu_between _ T) hR
  · rw [e]; exact rw_o (tu_between _ T) hR
theorem rk_lies {S S1 : sX} {T : sM} {k0 : Int32} {n n0 : Int64} {p0 : Int32} (hI : IM T) (hR : RelL S T) (D : (k0 = 0 ∧ (¬ p0 < (f_X4_firstQ 3) ∧ ¬ (f_X4_lastQ 3) < p0) ∧ S1 = S ∧ n0 = if (r_X5_lies p0 S) = 0 then 0 else 1) ∨ (k0 = 1 ∧ (p0 < (f_X4_firstQ 3) ∨ (f_X4_lastQ 3) < p0) ∧ S1 = S ∧ n0 = n)) : RelL S1 (r_X7_lies p0 T).2 := by
  rcases D with ⟨_, _, e, _⟩ | ⟨_, _, e, _⟩
  · rw [e]; exact rw_o (tu_lies _ T) hR
  · rw [e]; exact rw_o (tu_lies _ T) hR
theorem rk_undone {S S1 : sX} {T : sM} {k0 : Int32} {n n0 : Int64} {p0 : Int32} (hI : IM T) (hR : RelL S T) (D : (k0 = 0 ∧ (¬ p0 < -4 ∧ ¬ 144 < p0) ∧ S1 = S ∧ n0 = if (r_X5_undone p0 S) = 0 then 0 else 1) ∨ (k0 = 1 ∧ (p0 < -4 ∨ 144 < p0) ∧ S1 = S ∧ n0 = n)) : RelL S1 (r_X7_undone p0 T).2 := by
  rcases D with ⟨_, _, e, _⟩ | ⟨_, _, e, _⟩
  · rw [e]; exact rw_o (tu_undone _ T) hR
  · rw [e]; exact rw_o (tu_undone _ T) hR
theorem rk_comesBack {S S1 : sX} {T : sM} {k0 : Int32} {n n0 : Int64} {p0 : Int32} (hI : IM T) (hR : RelL S T) (D : (k0 = 0 ∧ (¬ p0 < -32 ∧ ¬ -5 < p0) ∧ S1 = S ∧ n0 = if (r_X5_comesBack p0 S) = 0 then 0 else 1) ∨ (k0 = 1 ∧ (p0 < -32 ∨ -5 < p0) ∧ S1 = S ∧ n0 = n)) : RelL S1 (r_X7_comesBack p0 T).2 := by
  rcases D with ⟨_, _, e, _⟩ | ⟨_, _, e, _⟩
  · rw [e]; exact rw_o (tu_comesBack _ T) hR
  · rw [e]; exact rw_o (tu_comesBack _ T) hR
theorem rk_comesForth {S S1 : sX} {T : sM} {k0 : Int32} {n n0 : Int64} {p0 : Int32} (hI : IM T) (hR : RelL S T) (D : (k0 = 0 ∧ (¬ p0 < (f_X4_firstQ 3) ∧ ¬ (f_X4_lastQ 3) < p0) ∧ S1 = S ∧ n0 = if (r_X5_comesForth p0 S) = 0 then 0 else 1) ∨ (k0 = 1 ∧ (p0 < (f_X4_firstQ 3) ∨ (f_X4_lastQ 3) < p0) ∧ S1 = S ∧ n0 = n)) : RelL S1 (r_X7_comesForth p0 T).2 := by
  rcases D with ⟨_, _, e, _⟩ | ⟨_, _, e, _⟩
  · rw [e]; exact rw_o (tu_comesForth _ T) hR
  · rw [e]; exact rw_o (tu_comesForth _ T) hR
theorem rk_opposite {S S1 : sX} {T : sM} {k0 : Int32} {n n0 : Int64} {p0 : Int32} (hI : IM T) (hR : RelL S T) (D : (k0 = 0 ∧ (¬ p0 < -160 ∧ ¬ 160 < p0) ∧ S1 = S ∧ n0 = if (r_X5_opposite p0 S) = 0 then 0 else 1) ∨ (k0 = 1 ∧ (p0 < -160 ∨ 160 < p0) ∧ S1 = S ∧ n0 = n)) : RelL S1 (r_X7_opposite p0 T).2 := by
  rcases D with ⟨_, _, e, _⟩ | ⟨_, _, e, _⟩
  · rw [e]; exact rw_o (tu_opposite _ T) hR
  · rw [e]; exact rw_o (tu_opposite _ T) hR
theorem rk_house {S S1 : sX} {T : sM} {k0 : Int32} {n n0 : Int64} {p0 : Int32} (hI : IM T) (hR : RelL S T) (D : (k0 = 0 ∧ (¬ p0 < 0 ∧ ¬ 4 < p0) ∧ S1 = S ∧ n0 = (r_X5_house p0 S).toInt64) ∨ (k0 = 1 ∧ (p0 < 0 ∨ 4 < p0) ∧ S1 = S ∧ n0 = n)) : RelL S1 (r_X7_house p0 T).2 := by
  rcases D with ⟨_, _, e, _⟩ | ⟨_, _, e, _⟩
  · rw [e]; exact rw_o (tu_house _ T) hR
  · rw [e]; exact rw_o (tu_house _ T) hR
theorem rk_knock {S : sX} {T : sM} (hI : IM T) (hR : RelL S T) : RelL (r_X5_knock S).2 (r_X7_knock T).2 := ⟨⟨hR.1.1, hR.1.2.1, hR.1.2.2.1, congrArg (fun x => x + 1) hR.1.2.2.2⟩, hR.2⟩
theorem rk_isSound {S : sX} {T : sM} (hI : IM T) (hR : RelL S T) : RelL S (r_X7_isSound T).2 := rw_o (tu_isSound T) hR
theorem rk_digest {S : sX} {T : sM} (hI : IM T) (hR : RelL S T) : RelL S (r_X7_digest T).2 := rw_o (tu_digest T) hR
theorem rl_0 : RelL (r_X5_init cX0) mS0 := by
  refine ⟨⟨fun c hc => ?_, fun c hc => ?_, by decide +kernel, by decide +kernel⟩, by decide +kernel⟩
  · have h : ∀ c : Nat, c < 8 → (r_X5_init cX0).1 c = enc 0 0 0 := by decide +kernel
    exact h c hc
  · have h : ∀ c : Nat, c < 8 → (r_X5_init cX0).2.1 c = f_X1_digitsOf ((r_X5_init cX0).1 c) := by decide +kernel
    exact h c hc
theorem ck_kind {S S1 : sX} {T : sM} {k0 : Int32} {n n0 : Int64} {p0 : Int32} (hI : IM T) (hR : Rw S T) (D : (k0 = 0 ∧ (¬ p0 < 0 ∧ ¬ 8 ≤ p0) ∧ S1 = S ∧ n0 = (r_X5_kind p0 S).toInt64) ∨ (k0 = 1 ∧ (p0 < 0 ∨ 8 ≤ p0) ∧ S1 = S ∧ n0 = n)) : r_X7_thrown (r_X7_kind p0 T).2 = k0 ∧ (k0 = 0 → n0 = (r_X7_kind p0 T).1.toInt64) := by
  rcases D with ⟨rfl, g0, rfl, rfl⟩ | ⟨rfl, f0, rfl, rfl⟩
  · have i0 := in8 g0
    have hv := hI _ (vp_lt i0)
    have eS := hR.1.1 _ (vp_lt i0)
    have e : r_X7_kind p0 T = (T.1 p0.toNatClampNeg, th 0 T) := by
      unfold r_X7_kind
      rw [nc0 g0, rfs0, q0c]
      try rfl
    have e2 : r_X5_kind p0 S1 = T.1 p0.toNatClampNeg := by
      unfold r_X5_kind
      rw [eS]
      exact (enc_v hv).1
    rw [e, e2]
    exact ⟨rfl, fun _ => rfl⟩
  · have e : r_X7_kind p0 T = (0, th 1 T) := by
      unfold r_X7_kind
      rw [nc1 f0, rfs1, q1c]
      try rfl
    rw [e]
    exact ⟨rfl, fun h => absurd h (by decide)⟩

theorem ck_of {S S1 : sX} {T : sM} {k0 : Int32} {n n0 : Int64} {p0 : Int32} (hI : IM T) (hR : Rw S T) (D : (k0 = 0 ∧ (¬ p0 < 0 ∧ ¬ 8 ≤ p0) ∧ S1 = S ∧ n0 = (r_X5_of p0 S).toInt64) ∨ (k0 = 1 ∧ (p0 < 0 ∨ 8 ≤ p0) ∧ S1 = S ∧ n0 = n)) : r_X7_thrown (r_X7_of p0 T).2 = k0 ∧ (k0 = 0 → n0 = (r_X7_of p0 T).1.toInt64) := by
  rcases D with ⟨rfl, g0, rfl, rfl⟩ | ⟨rfl, f0, rfl, rfl⟩
  · have i0 := in8 g0
    have hv := hI _ (vp_lt i0)
    have eS := hR.1.1 _ (vp_lt i0)
    have e : r_X7_of p0 T = (qx (T.1 p0.toNatClampNeg) (T.2.1 p0.toNatClampNeg) (T.2.2.1 p0.toNatClampNeg), th 0 T) := by
      unfold r_X7_of
      rw [nc0 g0, rfs0, q0c]
      exact of_e p0 T (th 0 T)
    have e2 : r_X5_of p0 S1 = qx (T.1 p0.toNatClampNeg) (T.2.1 p0.toNatClampNeg) (T.2.2.1 p0.toNatClampNeg) := by
      unfold r_X5_of
      rw [eS]
      exact (enc_v hv).2.1
    rw [e, e2]
    exact ⟨rfl, fun _ => rfl⟩
  · have e : r_X7_of p0 T = (0, th 1 T) := by
      unfold r_X7_of
      rw [nc1 f0, rfs1, q1c]
      try rfl
    rw [e]
    exact ⟨rfl, fun h => absurd h (by decide)⟩

theorem ck_isBelow {S S1 : sX} {T : sM} {k0 : Int32} {n n0 : Int64} {p0 : Int32} (hI : IM T) (hR : Rw S T) (D : (k0 = 0 ∧ (¬ p0 < 0 ∧ ¬ 8 ≤ p0) ∧ S1 = S ∧ n0 = if (r_X5_isBelow p0 S) = 0 then 0 else 1) ∨ (k0 = 1 ∧ (p0 < 0 ∨ 8 ≤ p0) ∧ S1 = S ∧ n0 = n)) : r_X7_thrown (r_X7_isBelow p0 T).2 = k0 ∧ (k0 = 0 → n0 = bzj (r_X7_isBelow p0 T).1) := by
  rcases D with ⟨rfl, g0, rfl, rfl⟩ | ⟨rfl, f0, rfl, rfl⟩
  · have i0 := in8 g0
    have hv := hI _ (vp_lt i0)
    have eS := hR.1.1 _ (vp_lt i0)
    have e : r_X7_isBelow p0 T = (sgx (T.1 p0.toNatClampNeg) (T.2.1 p0.toNatClampNeg) (T.2.2.1 p0.toNatClampNeg), th 0 T) := by
      unfold r_X7_isBelow
      rw [nc0 g0, rfs0, q0c]
      exact low_e (X := th 0 T) hv
    have e2 : r_X5_isBelow p0 S1 = sgx (T.1 p0.toNatClampNeg) (T.2.1 p0.toNatClampNeg) (T.2.2.1 p0.toNatClampNeg) := by
      unfold r_X5_isBelow
      rw [eS]
      exact (enc_v hv).2.2
    rw [e, e2]
    exact ⟨rfl, fun _ => rfl⟩
  · have e : r_X7_isBelow p0 T = (0, th 1 T) := by
      unfold r_X7_isBelow
      rw [nc1 f0, rfs1, q1c]
      try rfl
    rw [e]
    exact ⟨rfl, fun h => absurd h (by decide)⟩

theorem ck_height {S S1 : sX} {T : sM} {k0 : Int32} {n n0 : Int64} {p0 : Int32} (hI : IM T) (hR : Rw S T) (D : (k0 = 0 ∧ (¬ p0 < 0 ∧ ¬ 8 ≤ p0) ∧ (¬ f_X2_hasHeight (S.1 p0.toNatClampNeg) = 0) ∧ S1 = S ∧ n0 = (r_X5_height p0 S).toInt64) ∨ (k0 = 1 ∧ (p0 < 0 ∨ 8 ≤ p0) ∧ S1 = S ∧ n0 = n) ∨ (k0 = 2 ∧ (¬ p0 < 0 ∧ ¬ 8 ≤ p0) ∧ (f_X2_hasHeight (S.1 p0.toNatClampNeg) = 0) ∧ S1 = S ∧ n0 = n)) : r_X7_thrown (r_X7_height p0 T).2 = k0 ∧ (k0 = 0 → n0 = (r_X7_height p0 T).1.toInt64) := by
  rcases D with ⟨rfl, g0, gh, rfl, rfl⟩ | ⟨rfl, f0, rfl, rfl⟩ | ⟨rfl, g0, fh, rfl, rfl⟩
  · have i0 := in8 g0
    have hv := hI _ (vp_lt i0)
    have eS := hR.1.1 _ (vp_lt i0)
    have eL := hR.1.2.1 _ (vp_lt i0)
    rw [eS] at gh eL
    obtain ⟨w1, w2, w3, w4, w5, w6⟩ := hg_v2 hv gh
    have tt := true_v (th 0 T) (vq_t hv)
    have sz := siz_v (r_X7_trueOf (T.1 p0.toNatClampNeg) (T.2.1 p0.toNatClampNeg) (th 0 T)) (th 0 T)
    rw [tt] at sz
    have pv := plo_v (r_X7_sizeOf (r_X7_trueOf (T.1 p0.toNatClampNeg) (T.2.1 p0.toNatClampNeg) (th 0 T)) (th 0 T)) (th 0 T) (n := hgC (T.1 p0.toNatClampNeg) (T.2.1 p0.toNatClampNeg) (T.2.2.1 p0.toNatClampNeg)) (by rw [sz]; exact w1) (by rw [sz]; exact w2) (by omega)
    have e : r_X7_height p0 T = (Int32.ofNat (hgC (T.1 p0.toNatClampNeg) (T.2.1 p0.toNatClampNeg) (T.2.2.1 p0.toNatClampNeg)) - 256, th 0 T) := by
      unfold r_X7_height
      rw [low_0 g0 hv gh, q0c]
      exact congrArg (fun x => (x - 256, th 0 T)) pv
    have e2 : r_X5_height p0 S1 = Int32.ofNat (hgC (T.1 p0.toNatClampNeg) (T.2.1 p0.toNatClampNeg) (T.2.2.1 p0.toNatClampNeg)) - 256 := by
      unfold r_X5_height
      rw [eL]
      exact w5
    rw [e, e2]
    exact ⟨rfl, fun _ => rfl⟩
  · have e : r_X7_height p0 T = (0, th 1 T) := by
      unfold r_X7_height
      rw [low_1 T f0, q1c]
      try rfl
    rw [e]
    exact ⟨rfl, fun h => absurd h (by decide)⟩
  · have i0 := in8 g0
    have hv := hI _ (vp_lt i0)
    rw [hR.1.1 _ (vp_lt i0)] at fh
    have e : r_X7_height p0 T = (0, th 2 T) := by
      unfold r_X7_height
      rw [low_2 g0 hv fh, q1c]
      try rfl
    rw [e]
    exact ⟨rfl, fun h => absurd h (by decide)⟩

theorem ck_digits {S S1 : sX} {T : sM} {k0 : Int32} {n n0 : Int64} {p0 : Int32} (hI : IM T) (hR : Rw S T) (D : (k0 = 0 ∧ (¬ p0 < 0 ∧ ¬ 8 ≤ p0) ∧ (¬ f_X2_hasHeight (S.1 p0.toNatClampNeg) = 0) ∧ S1 = S ∧ n0 = (r_X5_digits p0 S).toInt64) ∨ (k0 = 1 ∧ (p0 < 0 ∨ 8 ≤ p0) ∧ S1 = S ∧ n0 = n) ∨ (k0 = 2 ∧ (¬ p0 < 0 ∧ ¬ 8 ≤ p0) ∧ (f_X2_hasHeight (S.1 p0.toNatClampNeg) = 0) ∧ S1 = S ∧ n0 = n)) : r_X7_thrown (r_X7_digits p0 T).2 = k0 ∧ (k0 = 0 → n0 = (r_X7_digits p0 T).1.toInt64) := by
  rcases D with ⟨rfl, g0, gh, rfl, rfl⟩ | ⟨rfl, f0, rfl, rfl⟩ | ⟨rfl, g0, fh, rfl, rfl⟩
  · have i0 := in8 g0
    have hv := hI _ (vp_lt i0)
    have eS := hR.1.1 _ (vp_lt i0)
    have eL := hR.1.2.1 _ (vp_lt i0)
    rw [eS] at gh eL
    obtain ⟨w1, w2, w3, w4, w5, w6⟩ := hg_v2 hv gh
    have tt := true_v (th 0 T) (vq_t hv)
    have sz := siz_v (r_X7_trueOf (T.1 p0.toNatClampNeg) (T.2.1 p0.toNatClampNeg) (th 0 T)) (th 0 T)
    rw [tt] at sz
    have pv := plo_v (r_X7_sizeOf (r_X7_trueOf (T.1 p0.toNatClampNeg) (T.2.1 p0.toNatClampNeg) (th 0 T)) (th 0 T)) (th 0 T) (n := hgC (T.1 p0.toNatClampNeg) (T.2.1 p0.toNatClampNeg) (T.2.2.1 p0.toNatClampNeg)) (by rw [sz]; exact w1) (by rw [sz]; exact w2) (by omega)
    have e30 : Int32.ofNat (hgC (T.1 p0.toNatClampNeg) (T.2.1 p0.toNatClampNeg) (T.2.2.1 p0.toNatClampNeg)) - 30 = Int32.ofNat (hgC (T.1 p0.toNatClampNeg) (T.2.1 p0.toNatClampNeg) (T.2.2.1 p0.toNatClampNeg) - 30) := by
      have h := Int32.ofNat_add (hgC (T.1 p0.toNatClampNeg) (T.2.1 p0.toNatClampNeg) (T.2.2.1 p0.toNatClampNeg) - 30) 30
      rw [Nat.sub_add_cancel w4] at h
      rw [h]
      exact Int32.add_sub_cancel _ _
    have dv := dfr (r_X7_sizeOf (r_X7_trueOf (T.1 p0.toNatClampNeg) (T.2.1 p0.toNatClampNeg) (th 0 T)) (th 0 T)) (pl := hgC (T.1 p0.toNatClampNeg) (T.2.1 p0.toNatClampNeg) (T.2.2.1 p0.toNatClampNeg) - 30) (by omega)
    have sp : svN (tS (T.1 p0.toNatClampNeg) (T.2.1 p0.toNatClampNeg)).natAbs = ((tS (T.1 p0.toNatClampNeg) (T.2.1 p0.toNatClampNeg)).natAbs : Int) := by
      unfold svN
      exact if_pos (Nat.lt_of_lt_of_le w2 (Nat.pow_le_pow_right (by decide) (by omega)))
    have sz2 : tv (r_X7_sizeOf (r_X7_trueOf (T.1 p0.toNatClampNeg) (T.2.1 p0.toNatClampNeg) (th 0 T)) (th 0 T)) 0 11 = (tS (T.1 p0.toNatClampNeg) (T.2.1 p0.toNatClampNeg)).natAbs := sz
    rw [sz2, sp] at dv
    have ed : (((tS (T.1 p0.toNatClampNeg) (T.2.1 p0.toNatClampNeg)).natAbs / 2 ^ (hgC (T.1 p0.toNatClampNeg) (T.2.1 p0.toNatClampNeg) (T.2.2.1 p0.toNatClampNeg) - 30) : Nat) : Int) = ((tS (T.1 p0.toNatClampNeg) (T.2.1 p0.toNatClampNeg)).natAbs : Int) / 2 ^ (hgC (T.1 p0.toNatClampNeg) (T.2.1 p0.toNatClampNeg) (T.2.2.1 p0.toNatClampNeg) - 30) := by
      push_cast
      rfl
    have e : r_X7_digits p0 T = (Int32.ofInt (((tS (T.1 p0.toNatClampNeg) (T.2.1 p0.toNatClampNeg)).natAbs : Int) / 2 ^ (hgC (T.1 p0.toNatClampNeg) (T.2.1 p0.toNatClampNeg) (T.2.2.1 p0.toNatClampNeg) - 30)), th 0 T) := by
      unfold r_X7_digits
      rw [low_0 g0 hv gh, q0c]
      show (r_X7_digitsFrom (r_X7_placeOf (r_X7_sizeOf (r_X7_trueOf (T.1 p0.toNatClampNeg) (T.2.1 p0.toNatClampNeg) (th 0 T)) (th 0 T)) (th 0 T) - 30) (r_X7_sizeOf (r_X7_trueOf (T.1 p0.toNatClampNeg) (T.2.1 p0.toNatClampNeg) (th 0 T)) (th 0 T)), th 0 T) = _
      rw [pv, e30, dv]
    have e2 : r_X5_digits p0 S1 = Int32.ofInt (((tS (T.1 p0.toNatClampNeg) (T.2.1 p0.toNatClampNeg)).natAbs : Int) / 2 ^ (hgC (T.1 p0.toNatClampNeg) (T.2.1 p0.toNatClampNeg) (T.2.2.1 p0.toNatClampNeg) - 30)) := by
      unfold r_X5_digits
      rw [eL, w6, ed]
    rw [e, e2]
    exact ⟨rfl, fun _ => rfl⟩
  · have e : r_X7_digits p0 T = (0, th 1 T) := by
      unfold r_X7_digits
      rw [low_1 T f0, q1c]
      try rfl
    rw [e]
    exact ⟨rfl, fun h => absurd h (by decide)⟩
  · have i0 := in8 g0
    have hv := hI _ (vp_lt i0)
    rw [hR.1.1 _ (vp_lt i0)] at fh
    have e : r_X7_digits p0 T = (0, th 2 T) := by
      unfold r_X7_digits
      rw [low_2 g0 hv fh, q1c]
      try rfl
    rw [e]
    exact ⟨rfl, fun h => absurd h (by decide)⟩

theorem ck_upper {S S1 : sX} {T : sM} {k0 : Int32} {n n0 : Int64} {p0 : Int32} (hI : IM T) (hR : Rw S T) (D : (k0 = 0 ∧ (¬ p0 < 0 ∧ ¬ 8 ≤ p0) ∧ (¬ f_X2_hasToldDigits (S.1 p0.toNatClampNeg) = 0) ∧ S1 = S ∧ n0 = (r_X5_upper p0 S).toInt64) ∨ (k0 = 1 ∧ (p0 < 0 ∨ 8 ≤ p0) ∧ S1 = S ∧ n0 = n) ∨ (k0 = 2 ∧ (¬ p0 < 0 ∧ ¬ 8 ≤ p0) ∧ (f_X2_hasToldDigits (S.1 p0.toNatClampNeg) = 0) ∧ S1 = S ∧ n0 = n)) : r_X7_thrown (r_X7_upper p0 T).2 = k0 ∧ (k0 = 0 → n0 = (r_X7_upper p0 T).1.toInt64) := by
  rcases D with ⟨rfl, g0, gt, rfl, rfl⟩ | ⟨rfl, f0, rfl, rfl⟩ | ⟨rfl, g0, ft, rfl, rfl⟩
  · have i0 := in8 g0
    have hv := hI _ (vp_lt i0)
    have eS := hR.1.1 _ (vp_lt i0)
    have eL := hR.1.2.1 _ (vp_lt i0)
    rw [eS] at gt eL
    have hk : T.1 p0.toNatClampNeg ≤ 1 := by
      by_cases z : T.1 p0.toNatClampNeg ≤ 1
      · exact z
      · rw [told_v hv, if_neg z] at gt; exact absurd rfl gt
    have dv := dgo_v (T := th 0 T) hv hk
    have e : r_X7_upper p0 T = (((f_X1_digitsOf (enc (T.1 p0.toNatClampNeg) (T.2.1 p0.toNatClampNeg) (T.2.2.1 p0.toNatClampNeg))) >>> ((32 : Int32).toInt64 &&& 63)).toInt32, th 0 T) := by
      unfold r_X7_upper
      rw [unk0 g0 hk, q0c]
      exact congrArg (fun x : Int64 => (((x) >>> ((32 : Int32).toInt64 &&& 63)).toInt32, th 0 T)) dv
    have e2 : r_X5_upper p0 S1 = ((f_X1_digitsOf (enc (T.1 p0.toNatClampNeg) (T.2.1 p0.toNatClampNeg) (T.2.2.1 p0.toNatClampNeg))) >>> ((32 : Int32).toInt64 &&& 63)).toInt32 := by
      unfold r_X5_upper
      rw [eL]
    rw [e, e2]
    exact ⟨rfl, fun _ => rfl⟩
  · have e : r_X7_upper p0 T = (0, th 1 T) := by
      unfold r_X7_upper
      rw [unk1 T f0, q1c]
      try rfl
    rw [e]
    exact ⟨rfl, fun h => absurd h (by decide)⟩
  · have i0 := in8 g0
    have hv := hI _ (vp_lt i0)
    rw [hR.1.1 _ (vp_lt i0), told_v hv] at ft
    have hk : ¬ T.1 p0.toNatClampNeg ≤ 1 := fun z => by
      rw [if_pos z] at ft; exact absurd ft (by decide)
    have e : r_X7_upper p0 T = (0, th 2 T) := by
      unfold r_X7_upper
      rw [unk2 g0 hk, q1c]
      try rfl
    rw [e]
    exact ⟨rfl, fun h => absurd h (by decide)⟩

theorem ck_lower {S S1 : sX} {T : sM} {k0 : Int32} {n n0 : Int64} {p0 : Int32} (hI : IM T) (hR : Rw S T) (D : (k0 = 0 ∧ (¬ p0 < 0 ∧ ¬ 8 ≤ p0) ∧ (¬ f_X2_hasToldDigits (S.1 p0.toNatClampNeg) = 0) ∧ S1 = S ∧ n0 = (r_X5_lower p0 S).toInt64) ∨ (k0 = 1 ∧ (p0 < 0 ∨ 8 ≤ p0) ∧ S1 = S ∧ n0 = n) ∨ (k0 = 2 ∧ (¬ p0 < 0 ∧ ¬ 8 ≤ p0) ∧ (f_X2_hasToldDigits (S.1 p0.toNatClampNeg) = 0) ∧ S1 = S ∧ n0 = n)) : r_X7_thrown (r_X7_lower p0 T).2 = k0 ∧ (k0 = 0 → n0 = (r_X7_lower p0 T).1.toInt64) := by
  rcases D with ⟨rfl, g0, gt, rfl, rfl⟩ | ⟨rfl, f0, rfl, rfl⟩ | ⟨rfl, g0, ft, rfl, rfl⟩
  · have i0 := in8 g0
    have hv := hI _ (vp_lt i0)
    have eS := hR.1.1 _ (vp_lt i0)
    have eL := hR.1.2.1 _ (vp_lt i0)
    rw [eS] at gt eL
    have hk : T.1 p0.toNatClampNeg ≤ 1 := by
      by_cases z : T.1 p0.toNatClampNeg ≤ 1
      · exact z
      · rw [told_v hv, if_neg z] at gt; exact absurd rfl gt
    have dv := dgo_v (T := th 0 T) hv hk
    have e : r_X7_lower p0 T = ((f_X1_digitsOf (enc (T.1 p0.toNatClampNeg) (T.2.1 p0.toNatClampNeg) (T.2.2.1 p0.toNatClampNeg))).toInt32, th 0 T) := by
      unfold r_X7_lower
      rw [unk0 g0 hk, q0c]
      exact congrArg (fun x : Int64 => ((x).toInt32, th 0 T)) dv
    have e2 : r_X5_lower p0 S1 = (f_X1_digitsOf (enc (T.1 p0.toNatClampNeg) (T.2.1 p0.toNatClampNeg) (T.2.2.1 p0.toNatClampNeg))).toInt32 := by
      unfold r_X5_lower
      rw [eL]
    rw [e, e2]
    exact ⟨rfl, fun _ => rfl⟩
  · have e : r_X7_lower p0 T = (0, th 1 T) := by
      unfold r_X7_lower
      rw [unk1 T f0, q1c]
      try rfl
    rw [e]
    exact ⟨rfl, fun h => absurd h (by decide)⟩
  · have i0 := in8 g0
    have hv := hI _ (vp_lt i0)
    rw [hR.1.1 _ (vp_lt i0), told_v hv] at ft
    have hk : ¬ T.1 p0.toNatClampNeg ≤ 1 := fun z => by
      rw [if_pos z] at ft; exact absurd ft (by decide)
    have e : r_X7_lower p0 T = (0, th 2 T) := by
      unfold r_X7_lower
      rw [unk2 g0 hk, q1c]
      try rfl
    rw [e]
    exact ⟨rfl, fun h => absurd h (by decide)⟩

theorem ck_find {S S1 : sX} {T : sM} {k0 : Int32} {n n0 : Int64} {p0 p1 : Int32} (hI : IM T) (hR : Rw S T) (D : (k0 = 0 ∧ (¬ p0 < 0 ∧ ¬ 8 ≤ p0) ∧ S1 = S ∧ n0 = (r_X5_find p0 p1 S).toInt64) ∨ (k0 = 1 ∧ (p0 < 0 ∨ 8 ≤ p0) ∧ S1 = S ∧ n0 = n)) : r_X7_thrown (r_X7_find p0 p1 T).2 = k0 ∧ (k0 = 0 → n0 = (r_X7_find p0 p1 T).1.toInt64) := by
  rcases D with ⟨rfl, g0, rfl, rfl⟩ | ⟨rfl, f0, rfl, rfl⟩
  · have i0 := in8 g0
    have hv := hI _ (vp_lt i0)
    have eS := hR.1.1 _ (vp_lt i0)
    have e : r_X7_find p0 p1 T = ((lf_X7_find_19 p0 p1 9 p0 0 (th 0 T)).1, th 0 T) := by
      unfold r_X7_find
      rw [nc0 g0, rfs0, q0c]
      try rfl
    have e2 : r_X5_find p0 p1 S1 = (lf_X7_find_19 p0 p1 9 p0 0 (th 0 T)).1 := by
      exact find_v (T := th 0 T) hR.1 (im_th0 hI) i0 9 p0 0 (by decide) (by decide)
    rw [e, e2]
    exact ⟨rfl, fun _ => rfl⟩
  · have e : r_X7_find p0 p1 T = (0, th 1 T) := by
      unfold r_X7_find
      rw [nc1 f0, rfs1, q1c]
      try rfl
    rw [e]
    exact ⟨rfl, fun h => absurd h (by decide)⟩

theorem ck_rank {S S1 : sX} {T : sM} {k0 : Int32} {n n0 : Int64} {p0 : Int32} (hI : IM T) (hR : Rw S T) (D : (k0 = 0 ∧ (¬ p0 < 0 ∧ ¬ 8 ≤ p0) ∧ S1 = S ∧ n0 = (r_X5_rank p0 S).toInt64) ∨ (k0 = 1 ∧ (p0 < 0 ∨ 8 ≤ p0) ∧ S1 = S ∧ n0 = n)) : r_X7_thrown (r_X7_rank p0 T).2 = k0 ∧ (k0 = 0 → n0 = (r_X7_rank p0 T).1.toInt64) := by
  rcases D with ⟨rfl, g0, rfl, rfl⟩ | ⟨rfl, f0, rfl, rfl⟩
  · have i0 := in8 g0
    have hv := hI _ (vp_lt i0)
    have eS := hR.1.1 _ (vp_lt i0)
    have e : r_X7_rank p0 T = ((lf_X7_rank_18 p0 9 0 0 (th 0 T)).1, th 0 T) := by
      unfold r_X7_rank
      rw [nc0 g0, rfs0, q0c]
      try rfl
    have e2 : r_X5_rank p0 S1 = (lf_X7_rank_18 p0 9 0 0 (th 0 T)).1 := by
      exact rank_v (T := th 0 T) hR.1 (im_th0 hI) i0 9 0 0 (by decide) (by decide)
    rw [e, e2]
    exact ⟨rfl, fun _ => rfl⟩
  · have e : r_X7_rank p0 T = (0, th 1 T) := by
      unfold r_X7_rank
      rw [nc1 f0, rfs1, q1c]
      try rfl
    rw [e]
    exact ⟨rfl, fun h => absurd h (by decide)⟩

theorem ck_before {S S1 : sX} {T : sM} {k0 : Int32} {n n0 : Int64} {p0 p1 : Int32} (hI : IM T) (hR : Rw S T) (D : (k0 = 0 ∧ (¬ p1 < 0 ∧ ¬ 8 ≤ p1) ∧ (¬ p0 < 0 ∧ ¬ 3 < p0) ∧ S1 = S ∧ n0 = (r_X5_before p0 p1 S).toInt64) ∨ (k0 = 1 ∧ (p1 < 0 ∨ 8 ≤ p1) ∧ S1 = S ∧ n0 = n) ∨ (k0 = 2 ∧ (¬ p1 < 0 ∧ ¬ 8 ≤ p1) ∧ (p0 < 0 ∨ 3 < p0) ∧ S1 = S ∧ n0 = n)) : r_X7_thrown (r_X7_before p0 p1 T).2 = k0 ∧ (k0 = 0 → n0 = (r_X7_before p0 p1 T).1.toInt64) := by
  rcases D with ⟨rfl, g0, g1, rfl, rfl⟩ | ⟨rfl, f0, rfl, rfl⟩ | ⟨rfl, g0, f1, rfl, rfl⟩
  · have i0 := in8 g0
    have hv := hI _ (vp_lt i0)
    have e : r_X7_before p0 p1 T = (befM p0 (T.1 p1.toNatClampNeg) (T.2.1 p1.toNatClampNeg) (T.2.2.1 p1.toNatClampNeg) (th 0 T), th 0 T) := by
      unfold r_X7_before befM
      rw [in_1 g1, it1, nc0 g0, rfs0, q0c]
      show (if T.1 p1.toNatClampNeg = 1 then (if T.2.2.1 p1.toNatClampNeg = 0 then (if p0 = 0 then (_, th 0 T) else (_, th 0 T)) else ((0 : Int32), th 0 T)) else if p0 = 0 then (if r_X7_isNought p1 (th 0 T) = 0 then (_, th 0 T) else if T.2.2.1 p1.toNatClampNeg = 0 then (_, th 0 T) else (_, th 0 T)) else (_, th 0 T)) = _
      by_cases h1 : T.1 p1.toNatClampNeg = 1
      · rw [if_pos h1, if_pos h1]
        (repeat' split) <;> rfl
      · rw [if_neg h1, if_neg h1]
        by_cases z : p0 = 0
        · rw [if_pos z, if_pos z]
          by_cases c : T.1 p1.toNatClampNeg = 0 ∧ T.2.1 p1.toNatClampNeg = 0
          · rw [if_pos c, if_neg (fun y => (no_if p1 (th 0 T)).mp y c)]
            (repeat' split) <;> rfl
          · rw [if_neg c, if_pos ((no_if p1 (th 0 T)).mpr c)]
            rfl
        · rw [if_neg z, if_neg z]
          rfl
    have e2 : r_X5_before p0 p1 S1 = befM p0 (T.1 p1.toNatClampNeg) (T.2.1 p1.toNatClampNeg) (T.2.2.1 p1.toNatClampNeg) (th 0 T) := by
      unfold r_X5_before
      rw [hR.1.2.1 _ (vp_lt i0), hR.1.1 _ (vp_lt i0)]
      exact bef_v (th 0 T) g1 hv
    rw [e, e2]
    exact ⟨rfl, fun _ => rfl⟩
  · have e : r_X7_before p0 p1 T = (0, th 1 T) := by
      unfold r_X7_before
      by_cases z : p0 < 0 ∨ 3 < p0
      · rw [in_0 z, it0, nc1 f0, rfs1, q1c]
      · rw [in_1 (not_or.mp z), it1, nc1 f0, rfs1, q1c]
    rw [e]
    exact ⟨rfl, fun h => absurd h (by decide)⟩
  · have e : r_X7_before p0 p1 T = (0, th 2 T) := by
      unfold r_X7_before
      rw [in_0 f1, it0, nc0 g0, rfs2, q1c]
    rw [e]
    exact ⟨rfl, fun h => absurd h (by decide)⟩

theorem ck_order {S S1 : sX} {T : sM} {k0 : Int32} {n n0 : Int64} {p0 p1 : Int32} (hI : IM T) (hR : Rw S T) (D : (k0 = 0 ∧ (¬ p0 < 0 ∧ ¬ 8 ≤ p0) ∧ (¬ p1 < 0 ∧ ¬ 8 ≤ p1) ∧ S1 = S ∧ n0 = (r_X5_order p0 p1 S).toInt64) ∨ (k0 = 1 ∧ (p0 < 0 ∨ 8 ≤ p0) ∧ S1 = S ∧ n0 = n) ∨ (k0 = 1 ∧ (¬ p0 < 0 ∧ ¬ 8 ≤ p0) ∧ (p1 < 0 ∨ 8 ≤ p1) ∧ S1 = S ∧ n0 = n)) : r_X7_thrown (r_X7_order p0 p1 T).2 = k0 ∧ (k0 = 0 → n0 = (r_X7_order p0 p1 T).1.toInt64) := by
  rcases D with ⟨rfl, g0, g1, rfl, rfl⟩ | ⟨rfl, f0, rfl, rfl⟩ | ⟨rfl, g0, f1, rfl, rfl⟩
  · have i0 := in8 g0
    have i1 := in8 g1
    have hI0 : IM (th 0 T) := im_th0 hI
    have hR0 : Rw0 S1 (th 0 T) := hR.1
    have e : r_X7_order p0 p1 T = ((if r_X7_areNear p0 p1 (th 0 T) = 0 then r_X7_orderOf p0 p1 (th 0 T) else 2), th 0 T) := by
      unfold r_X7_order
      rw [none0 T g0 g1, q0c]
      show (if r_X7_areNear p0 p1 (th 0 T) = 0 then (r_X7_orderOf p0 p1 (th 0 T), th 0 T) else (2, th 0 T)) = _
      split <;> rfl
    have e2 : r_X5_order p0 p1 S1 = (if r_X7_areNear p0 p1 (th 0 T) = 0 then r_X7_orderOf p0 p1 (th 0 T) else 2) := by
      unfold r_X5_order
      rw [near_S hR0 hI0 i0 i1, ordXM hR0 hI0 i0 i1]
    rw [e, e2]
    exact ⟨rfl, fun _ => rfl⟩
  · have e : r_X7_order p0 p1 T = (0, th 1 T) := by
      unfold r_X7_order
      rw [none1 T f0, q1c]
      try rfl
    rw [e]
    exact ⟨rfl, fun h => absurd h (by decide)⟩
  · have e : r_X7_order p0 p1 T = (0, th 1 T) := by
      unfold r_X7_order
      rw [none2 T g0 f1, q1c]
      try rfl
    rw [e]
    exact ⟨rfl, fun h => absurd h (by decide)⟩

theorem ck_house {S S1 : sX} {T : sM} {k0 : Int32} {n n0 : Int64} {p0 : Int32} (hI : IM T) (hR : Rw S T) (D : (k0 = 0 ∧ (¬ p0 < 0 ∧ ¬ 4 < p0) ∧ S1 = S ∧ n0 = (r_X5_house p0 S).toInt64) ∨ (k0 = 1 ∧ (p0 < 0 ∨ 4 < p0) ∧ S1 = S ∧ n0 = n)) : r_X7_thrown (r_X7_house p0 T).2 = k0 ∧ (k0 = 0 → n0 = (r_X7_house p0 T).1.toInt64) := by
  rcases D with ⟨rfl, g0, rfl, rfl⟩ | ⟨rfl, f0, rfl, rfl⟩
  · have e : r_X7_house p0 T = ((if 3 ≤ p0 then (lf_X7_house_52 p0 9 0 0 (th 0 T)).1 else if p0 = 0 then T.2.2.2.1 else if p0 = 1 then T.2.2.2.2.1 else T.2.2.2.2.2.1), th 0 T) := by
      unfold r_X7_house
      rw [in_1 g0, is1, q1c]
      show (if 3 ≤ p0 then (_, th 0 T) else if p0 = 0 then (_, th 0 T) else if p0 = 1 then (_, th 0 T) else (_, th 0 T)) = _
      (repeat' split) <;> rfl
    have e2 := hou_v (w := p0) (T := th 0 T) hR (im_th0 hI) g0
    rw [e, e2]
    exact ⟨rfl, fun _ => rfl⟩
  · have e : r_X7_house p0 T = (0, th 1 T) := by
      unfold r_X7_house
      rw [in_0 f0, is0, q0c]
    rw [e]
    exact ⟨rfl, fun h => absurd h (by decide)⟩

theorem rc_isSound {S : sX} {T : sM} (hI : IM T) (hR : RelL S T) : r_X5_isSound S = (r_X7_isSound T).1 := snd_v hR hI

theorem in8' {i : Int32} (h : vp_in i 8) : ¬ i < 0 ∧ ¬ 8 ≤ i := by
  have := vp_in_iff.mp h
  have e0 : (0 : Int32).toInt = 0 := rfl
  have e8 : (8 : Int32).toInt = 8 := rfl
  rw [Int32.lt_iff_toInt_lt, Int32.le_iff_toInt_le]
  omega
theorem bz_0 {x y : Int32} (h : (if x = 0 then (0 : Int64) else 1) = bzj y) : x = 0 ↔ y = 0 := by
  unfold bzj at h
  by_cases a : x = 0
  · rw [if_pos a] at h
    by_cases b : y = 0
    · exact ⟨fun _ => b, fun _ => a⟩
    · rw [if_neg b] at h
      exact absurd h (by decide)
  · rw [if_neg a] at h
    by_cases b : y = 0
    · rw [if_pos b] at h
      exact absurd h (by decide)
    · exact ⟨fun z => absurd z a, fun z => absurd z b⟩
theorem dg_c {S : sX} {T : sM} (hI : IM T) (hR : RelL S T) {d : Int64} {i : Int32} (i8 : vp_in i 8) : ∀ fu : Nat, lf_X7_digest_6 (fu + 1) d i T = lf_X7_digest_6 fu (r_X5_digestCell d i S) (i + 1) T := by
  have g0 := in8' i8
  have hv := hI _ (vp_lt i8)
  have eS := hR.1.1 _ (vp_lt i8)
  have eK := (ck_kind (S := S) (S1 := S) (T := T) (k0 := 0) (n := 0) (p0 := i) hI hR (Or.inl ⟨rfl, g0, rfl, rfl⟩)).2 rfl
  have eO := (ck_of (S := S) (S1 := S) (T := T) (k0 := 0) (n := 0) (p0 := i) hI hR (Or.inl ⟨rfl, g0, rfl, rfl⟩)).2 rfl
  have eB := (ck_isBelow (S := S) (S1 := S) (T := T) (k0 := 0) (n := 0) (p0 := i) hI hR (Or.inl ⟨rfl, g0, rfl, rfl⟩)).2 rfl
  replace eB := bz_0 eB
  have eF0 := (ck_find (S := S) (S1 := S) (T := T) (k0 := 0) (n := 0) (p0 := i) (p1 := 0) hI hR (Or.inl ⟨rfl, g0, rfl, rfl⟩)).2 rfl
  have eF1 := (ck_find (S := S) (S1 := S) (T := T) (k0 := 0) (n := 0) (p0 := i) (p1 := 1) hI hR (Or.inl ⟨rfl, g0, rfl, rfl⟩)).2 rfl
  have eR := (ck_rank (S := S) (S1 := S) (T := T) (k0 := 0) (n := 0) (p0 := i) hI hR (Or.inl ⟨rfl, g0, rfl, rfl⟩)).2 rfl
  have hb : ∀ h : Int32, ¬ h < 0 → ¬ 3 < h → (r_X5_before h i S).toInt64 = (r_X7_before h i T).1.toInt64 := fun h a b => (ck_before (S := S) (S1 := S) (T := T) (k0 := 0) (n := 0) (p0 := h) (p1 := i) hI hR (Or.inl ⟨rfl, g0, ⟨a, b⟩, rfl, rfl⟩)).2 rfl
  have eH : ¬ f_X2_hasHeight (S.1 i.toNatClampNeg) = 0 → (r_X5_height i S).toInt64 = (r_X7_height i T).1.toInt64 := fun z => (ck_height (S := S) (S1 := S) (T := T) (k0 := 0) (n := 0) (p0 := i) hI hR (Or.inl ⟨rfl, g0, z, rfl, rfl⟩)).2 rfl
  have eD : ¬ f_X2_hasHeight (S.1 i.toNatClampNeg) = 0 → (r_X5_digits i S).toInt64 = (r_X7_digits i T).1.toInt64 := fun z => (ck_digits (S := S) (S1 := S) (T := T) (k0 := 0) (n := 0) (p0 := i) hI hR (Or.inl ⟨rfl, g0, z, rfl, rfl⟩)).2 rfl
  have eU : ¬ f_X2_hasToldDigits (S.1 i.toNatClampNeg) = 0 → (r_X5_upper i S).toInt64 = (r_X7_upper i T).1.toInt64 := fun z => (ck_upper (S := S) (S1 := S) (T := T) (k0 := 0) (n := 0) (p0 := i) hI hR (Or.inl ⟨rfl, g0, z, rfl, rfl⟩)).2 rfl
  have eL : ¬ f_X2_hasToldDigits (S.1 i.toNatClampNeg) = 0 → (r_X5_lower i S).toInt64 = (r_X7_lower i T).1.toInt64 := fun z => (ck_lower (S := S) (S1 := S) (T := T) (k0 := 0) (n := 0) (p0 := i) hI hR (Or.inl ⟨rfl, g0, z, rfl, rfl⟩)).2 rfl
  have cT : f_X2_hasToldDigits (S.1 i.toNatClampNeg) = 0 ↔ ¬ T.1 i.toNatClampNeg ≤ 1 := by
    rw [eS, told_v hv]
    by_cases z : T.1 i.toNatClampNeg ≤ 1
    · rw [if_pos z]
      exact ⟨fun y => absurd y (by decide), fun y => absurd z y⟩
    · rw [if_neg z]
      exact ⟨fun _ => z, fun _ => rfl⟩
  have cH : ¬ f_X2_hasHeight (S.1 i.toNatClampNeg) = 0 ↔ r_X7_isUntold i T = 0 ∧ r_X7_isNought i T = 0 := by
    rw [eS, (hh_v hv).1, no_if]
    unfold r_X7_isUntold
    by_cases h1 : T.1 i.toNatClampNeg = 1
    · rw [if_pos h1, if_pos h1]
      exact ⟨fun y => absurd rfl y, fun y => absurd y.1 (by decide)⟩
    · rw [if_neg h1, if_neg h1]
      by_cases h4 : T.1 i.toNatClampNeg ≤ 4
      · rw [if_pos h4, if_pos h4]
        by_cases h0 : T.1 i.toNatClampNeg = 0
        · rw [if_pos h0]
          by_cases q0 : T.2.1 i.toNatClampNeg = 0
          · rw [if_pos q0]
            exact ⟨fun y => absurd rfl y, fun y => absurd ⟨h0, q0⟩ y.2⟩
          · rw [if_neg q0]
            exact ⟨fun _ => ⟨rfl, fun y => q0 y.2⟩, fun _ => by decide⟩
        · rw [if_neg h0]
          exact ⟨fun _ => ⟨rfl, fun y => h0 y.1⟩, fun _ => by decide⟩
      · rw [if_neg h4, if_neg h4]
        exact ⟨fun y => absurd rfl y, fun y => absurd y.1 (by decide)⟩
  intro fu
  rw [lf_X7_digest_6, if_neg g0.2]
  unfold r_X5_digestCell
  by_cases b : (r_X7_isBelow i T).1 = 0
  · by_cases u : r_X7_isUntold i T = 0
    · by_cases n : r_X7_isNought i T = 0
      · by_cases k : T.1 i.toNatClampNeg ≤ 1
        · have hh : ¬ f_X2_hasHeight (S.1 i.toNatClampNeg) = 0 := cH.mpr ⟨u, n⟩
          have tt : ¬ f_X2_hasToldDigits (S.1 i.toNatClampNeg) = 0 := fun z => cT.mp z k
          rw [if_pos b, if_pos u, if_pos n, if_pos k, if_pos (eB.mpr b), if_neg hh, if_neg tt, eK, eO, eH hh, eD hh, eU tt, eL tt, eF0, eF1, eR, dg_208 (T := T) hb 5 5 _ 0 (by decide) (by decide) (by decide)]
        · have hh : ¬ f_X2_hasHeight (S.1 i.toNatClampNeg) = 0 := cH.mpr ⟨u, n⟩
          have tt : f_X2_hasToldDigits (S.1 i.toNatClampNeg) = 0 := cT.mpr k
          rw [if_pos b, if_pos u, if_pos n, if_neg k, if_pos (eB.mpr b), if_neg hh, if_pos tt, eK, eO, eH hh, eD hh, eF0, eF1, eR, dg_208 (T := T) hb 5 5 _ 0 (by decide) (by decide) (by decide)]
      · by_cases k : T.1 i.toNatClampNeg ≤ 1
        · have hh : f_X2_hasHeight (S.1 i.toNatClampNeg) = 0 := Decidable.byContradiction (fun z => n (cH.mp z).2)
          have tt : ¬ f_X2_hasToldDigits (S.1 i.toNatClampNeg) = 0 := fun z => cT.mp z k
          rw [if_pos b, if_pos u, if_neg n, if_pos k, if_pos (eB.mpr b), if_pos hh, if_neg tt, eK, eO, eU tt, eL tt, eF0, eF1, eR, dg_208 (T := T) hb 5 5 _ 0 (by decide) (by decide) (by decide)]
        · have hh : f_X2_hasHeight (S.1 i.toNatClampNeg) = 0 := Decidable.byContradiction (fun z => n (cH.mp z).2)
          have tt : f_X2_hasToldDigits (S.1 i.toNatClampNeg) = 0 := cT.mpr k
          rw [if_pos b, if_pos u, if_neg n, if_neg k, if_pos (eB.mpr b), if_pos hh, if_pos tt, eK, eO, eF0, eF1, eR, dg_208 (T := T) hb 5 5 _ 0 (by decide) (by decide) (by decide)]
    · by_cases k : T.1 i.toNatClampNeg ≤ 1
      · have hh : f_X2_hasHeight (S.1 i.toNatClampNeg) = 0 := Decidable.byContradiction (fun z => u (cH.mp z).1)
        have tt : ¬ f_X2_hasToldDigits (S.1 i.toNatClampNeg) = 0 := fun z => cT.mp z k
        rw [if_pos b, if_neg u, if_pos k, if_pos (eB.mpr b), if_pos hh, if_neg tt, eK, eO, eU tt, eL tt, eF0, eF1, eR, dg_208 (T := T) hb 5 5 _ 0 (by decide) (by decide) (by decide)]
      · have hh : f_X2_hasHeight (S.1 i.toNatClampNeg) = 0 := Decidable.byContradiction (fun z => u (cH.mp z).1)
        have tt : f_X2_hasToldDigits (S.1 i.toNatClampNeg) = 0 := cT.mpr k
        rw [if_pos b, if_neg u, if_neg k, if_pos (eB.mpr b), if_pos hh, if_pos tt, eK, eO, eF0, eF1, eR, dg_208 (T := T) hb 5 5 _ 0 (by decide) (by decide) (by decide)]
  · by_cases u : r_X7_isUntold i T = 0
    · by_cases n : r_X7_isNought i T = 0
      · by_cases k : T.1 i.toNatClampNeg ≤ 1
        · have hh : ¬ f_X2_hasHeight (S.1 i.toNatClampNeg) = 0 := cH.mpr ⟨u, n⟩
          have tt : ¬ f_X2_hasToldDigits (S.1 i.toNatClampNeg) = 0 := fun z => cT.mp z k
          rw [if_neg b, if_pos u, if_pos n, if_pos k, if_neg (fun z => b (eB.mp z)), if_neg hh, if_neg tt, eK, eO, eH hh, eD hh, eU tt, eL tt, eF0, eF1, eR, dg_208 (T := T) hb 5 5 _ 0 (by decide) (by decide) (by decide)]
        · have hh : ¬ f_X2_hasHeight (S.1 i.toNatClampNeg) = 0 := cH.mpr ⟨u, n⟩
          have tt : f_X2_hasToldDigits (S.1 i.toNatClampNeg) = 0 := cT.mpr k
          rw [if_neg b, if_pos u, if_pos n, if_neg k, if_neg (fun z => b (eB.mp z)), if_neg hh, if_pos tt, eK, eO, eH hh, eD hh, eF0, eF1, eR, dg_208 (T := T) hb 5 5 _ 0 (by decide) (by decide) (by decide)]
      · by_cases k : T.1 i.toNatClampNeg ≤ 1
        · have hh : f_X2_hasHeight (S.1 i.toNatClampNeg) = 0 := Decidable.byContradiction (fun z => n (cH.mp z).2)
          have tt : ¬ f_X2_hasToldDigits (S.1 i.toNatClampNeg) = 0 := fun z => cT.mp z k
          rw [if_neg b, if_pos u, if_neg n, if_pos k, if_neg (fun z => b (eB.mp z)), if_pos hh, if_neg tt, eK, eO, eU tt, eL tt, eF0, eF1, eR, dg_208 (T := T) hb 5 5 _ 0 (by decide) (by decide) (by decide)]
        · have hh : f_X2_hasHeight (S.1 i.toNatClampNeg) = 0 := Decidable.byContradiction (fun z => n (cH.mp z).2)
          have tt : f_X2_hasToldDigits (S.1 i.toNatClampNeg) = 0 := cT.mpr k
          rw [if_neg b, if_pos u, if_neg n, if_neg k, if_neg (fun z => b (eB.mp z)), if_pos hh, if_pos tt, eK, eO, eF0, eF1, eR, dg_208 (T := T) hb 5 5 _ 0 (by decide) (by decide) (by decide)]
    · by_cases k : T.1 i.toNatClampNeg ≤ 1
      · have hh : f_X2_hasHeight (S.1 i.toNatClampNeg) = 0 := Decidable.byContradiction (fun z => u (cH.mp z).1)
        have tt : ¬ f_X2_hasToldDigits (S.1 i.toNatClampNeg) = 0 := fun z => cT.mp z k
        rw [if_neg b, if_neg u, if_pos k, if_neg (fun z => b (eB.mp z)), if_pos hh, if_neg tt, eK, eO, eU tt, eL tt, eF0, eF1, eR, dg_208 (T := T) hb 5 5 _ 0 (by decide) (by decide) (by decide)]
      · have hh : f_X2_hasHeight (S.1 i.toNatClampNeg) = 0 := Decidable.byContradiction (fun z => u (cH.mp z).1)
        have tt : f_X2_hasToldDigits (S.1 i.toNatClampNeg) = 0 := cT.mpr k
        rw [if_neg b, if_neg u, if_neg k, if_neg (fun z => b (eB.mp z)), if_pos hh, if_pos tt, eK, eO, eF0, eF1, eR, dg_208 (T := T) hb 5 5 _ 0 (by decide) (by decide) (by decide)]
theorem rc_digest {S : sX} {T : sM} (hI : IM T) (hR : RelL S T) : r_X5_digest S = (r_X7_digest T).1 := by
  have h1 := dg_6 (S := S) (T := T) (fun d i i8 _ => ⟨_, rfl, dg_c hI hR i8⟩) 9 7896 0 (by decide) (by decide)
  have h2 := dg_27 (S := S) (T := T) (fun i j a b => (ck_order (S := S) (S1 := S) (T := T) (k0 := 0) (n := 0) (p0 := i) (p1 := j) hI hR (Or.inl ⟨rfl, in8' a, in8' b, rfl, rfl⟩)).2 rfl) 9 (lf_X7_digest_6 9 7896 0 T).1 0 (by decide) (by decide)
  have h3 := dg_74 (S := S) (T := T) (snd_v hR hI) (fun w a b => (ck_house (S := S) (S1 := S) (T := T) (k0 := 0) (n := 0) (p0 := w) hI hR (Or.inl ⟨rfl, ⟨a, b⟩, rfl, rfl⟩)).2 rfl) 6 6 (lf_X7_digest_227 9 (lf_X7_digest_6 9 7896 0 T).1 0 T).1 0 (by decide) (by decide) (by decide)
  exact (h1.trans h2).trans h3
