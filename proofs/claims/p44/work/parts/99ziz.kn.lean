def RelL (_ : sX) (_ : sM) : Prop := True
theorem rk_quarter {S S1 : sX} {T T2 : sM} {p : Prop} (_ : RelL S T) (_ : p) : RelL S1 T2 := trivial
theorem rk_zero {S S1 : sX} {T T2 : sM} {p : Prop} (_ : RelL S T) (_ : p) : RelL S1 T2 := trivial
theorem rk_endless {S S1 : sX} {T T2 : sM} {p : Prop} (_ : RelL S T) (_ : p) : RelL S1 T2 := trivial
theorem rk_row {S S1 : sX} {T T2 : sM} {p : Prop} (_ : RelL S T) (_ : p) : RelL S1 T2 := trivial
theorem rk_wipe {S S1 : sX} {T T2 : sM} (_ : RelL S T) : RelL S1 T2 := trivial
theorem rk_copy {S S1 : sX} {T T2 : sM} {p : Prop} (_ : RelL S T) (_ : p) : RelL S1 T2 := trivial
theorem rk_swap {S S1 : sX} {T T2 : sM} {p : Prop} (_ : RelL S T) (_ : p) : RelL S1 T2 := trivial
theorem rk_step {S S1 : sX} {T T2 : sM} {p : Prop} (_ : RelL S T) (_ : p) : RelL S1 T2 := trivial
theorem rk_turn {S S1 : sX} {T T2 : sM} {p : Prop} (_ : RelL S T) (_ : p) : RelL S1 T2 := trivial
theorem rk_power {S S1 : sX} {T T2 : sM} {p : Prop} (_ : RelL S T) (_ : p) : RelL S1 T2 := trivial
theorem rk_lessen {S S1 : sX} {T T2 : sM} {p : Prop} (_ : RelL S T) (_ : p) : RelL S1 T2 := trivial
theorem rk_log {S S1 : sX} {T T2 : sM} {p : Prop} (_ : RelL S T) (_ : p) : RelL S1 T2 := trivial
theorem rk_all {S S1 : sX} {T T2 : sM} {p : Prop} (_ : RelL S T) (_ : p) : RelL S1 T2 := trivial
theorem rk_greater {S S1 : sX} {T T2 : sM} {p : Prop} (_ : RelL S T) (_ : p) : RelL S1 T2 := trivial
theorem rk_lesser {S S1 : sX} {T T2 : sM} {p : Prop} (_ : RelL S T) (_ : p) : RelL S1 T2 := trivial
theorem rk_end {S S1 : sX} {T T2 : sM} {p : Prop} (_ : RelL S T) (_ : p) : RelL S1 T2 := trivial
theorem rk_sort {S S1 : sX} {T T2 : sM} (_ : RelL S T) : RelL S1 T2 := trivial
theorem rk_kind {S S1 : sX} {T T2 : sM} {p : Prop} (_ : RelL S T) (_ : p) : RelL S1 T2 := trivial
theorem rk_of {S S1 : sX} {T T2 : sM} {p : Prop} (_ : RelL S T) (_ : p) : RelL S1 T2 := trivial
theorem rk_isBelow {S S1 : sX} {T T2 : sM} {p : Prop} (_ : RelL S T) (_ : p) : RelL S1 T2 := trivial
theorem rk_isZero {S S1 : sX} {T T2 : sM} {p : Prop} (_ : RelL S T) (_ : p) : RelL S1 T2 := trivial
theorem rk_isEndless {S S1 : sX} {T T2 : sM} {p : Prop} (_ : RelL S T) (_ : p) : RelL S1 T2 := trivial
theorem rk_whole {S S1 : sX} {T T2 : sM} {p : Prop} (_ : RelL S T) (_ : p) : RelL S1 T2 := trivial
theorem rk_height {S S1 : sX} {T T2 : sM} {p : Prop} (_ : RelL S T) (_ : p) : RelL S1 T2 := trivial
theorem rk_digits {S S1 : sX} {T T2 : sM} {p : Prop} (_ : RelL S T) (_ : p) : RelL S1 T2 := trivial
theorem rk_upper {S S1 : sX} {T T2 : sM} {p : Prop} (_ : RelL S T) (_ : p) : RelL S1 T2 := trivial
theorem rk_lower {S S1 : sX} {T T2 : sM} {p : Prop} (_ : RelL S T) (_ : p) : RelL S1 T2 := trivial
theorem rk_text {S S1 : sX} {T T2 : sM} (_ : RelL S T) : RelL S1 T2 := trivial
theorem rk_order {S S1 : sX} {T T2 : sM} {p : Prop} (_ : RelL S T) (_ : p) : RelL S1 T2 := trivial
theorem rk_isAlike {S S1 : sX} {T T2 : sM} {p : Prop} (_ : RelL S T) (_ : p) : RelL S1 T2 := trivial
theorem rk_isNear {S S1 : sX} {T T2 : sM} {p : Prop} (_ : RelL S T) (_ : p) : RelL S1 T2 := trivial
theorem rk_most {S S1 : sX} {T T2 : sM} {p : Prop} (_ : RelL S T) (_ : p) : RelL S1 T2 := trivial
theorem rk_isWithin {S S1 : sX} {T T2 : sM} {p : Prop} (_ : RelL S T) (_ : p) : RelL S1 T2 := trivial
theorem rk_find {S S1 : sX} {T T2 : sM} {p : Prop} (_ : RelL S T) (_ : p) : RelL S1 T2 := trivial
theorem rk_rank {S S1 : sX} {T T2 : sM} {p : Prop} (_ : RelL S T) (_ : p) : RelL S1 T2 := trivial
theorem rk_before {S S1 : sX} {T T2 : sM} {p : Prop} (_ : RelL S T) (_ : p) : RelL S1 T2 := trivial
theorem rk_answer {S S1 : sX} {T T2 : sM} {p : Prop} (_ : RelL S T) (_ : p) : RelL S1 T2 := trivial
theorem rk_below {S S1 : sX} {T T2 : sM} {p : Prop} (_ : RelL S T) (_ : p) : RelL S1 T2 := trivial
theorem rk_rises {S S1 : sX} {T T2 : sM} {p : Prop} (_ : RelL S T) (_ : p) : RelL S1 T2 := trivial
theorem rk_between {S S1 : sX} {T T2 : sM} {p : Prop} (_ : RelL S T) (_ : p) : RelL S1 T2 := trivial
theorem rk_lies {S S1 : sX} {T T2 : sM} {p : Prop} (_ : RelL S T) (_ : p) : RelL S1 T2 := trivial
theorem rk_undone {S S1 : sX} {T T2 : sM} {p : Prop} (_ : RelL S T) (_ : p) : RelL S1 T2 := trivial
theorem rk_comesBack {S S1 : sX} {T T2 : sM} {p : Prop} (_ : RelL S T) (_ : p) : RelL S1 T2 := trivial
theorem rk_comesForth {S S1 : sX} {T T2 : sM} {p : Prop} (_ : RelL S T) (_ : p) : RelL S1 T2 := trivial
theorem rk_opposite {S S1 : sX} {T T2 : sM} {p : Prop} (_ : RelL S T) (_ : p) : RelL S1 T2 := trivial
theorem rk_house {S S1 : sX} {T T2 : sM} {p : Prop} (_ : RelL S T) (_ : p) : RelL S1 T2 := trivial
theorem rk_knock {S S1 : sX} {T T2 : sM} (_ : RelL S T) : RelL S1 T2 := trivial
theorem rk_isSound {S S1 : sX} {T T2 : sM} (_ : RelL S T) : RelL S1 T2 := trivial
theorem rk_digest {S S1 : sX} {T T2 : sM} (_ : RelL S T) : RelL S1 T2 := trivial
theorem rl_0 : RelL (r_X5_init cX0) mS0 := trivial
theorem in_1 {v lo up : Int32} (h : ¬ v < lo ∧ ¬ up < v) : f_X7_isIn v lo up = 1 := by
  unfold f_X7_isIn
  rw [if_neg h.1, if_neg h.2]
theorem in_0 {v lo up : Int32} (h : v < lo ∨ up < v) : f_X7_isIn v lo up = 0 := by
  unfold f_X7_isIn
  by_cases h1 : v < lo
  · rw [if_pos h1]
  · rw [if_neg h1, if_pos (h.resolve_left h1)]
theorem rg_i {q lo up : Int32} (h : ¬ q < lo ∧ ¬ up < q) : lo.toInt ≤ q.toInt ∧ q.toInt ≤ up.toInt := by
  obtain ⟨h1, h2⟩ := h
  rw [Int32.lt_iff_toInt_lt] at h1 h2
  omega
theorem ok_comesBack {q : Int32} (S : sX) (h : ¬ q < -32 ∧ ¬ -5 < q) : r_X5_comesBack q S = 1 := by
  obtain ⟨h1, h2⟩ := rg_i h
  have el : (-32 : Int32).toInt = -32 := rfl
  have eu : (-5 : Int32).toInt = -5 := rfl
  exact fin_q (P := fun q => r_X5_comesBack q cX0 = 1) (-32) 28 (by decide +kernel) (by omega) (by omega)
theorem ck_comesBack {S S1 : sX} {T : sM} {k0 : Int32} {n n0 : Int64} {p0 : Int32} (hI : IM T) (hR : RelL S T) (D : (k0 = 0 ∧ (¬ p0 < -32 ∧ ¬ -5 < p0) ∧ S1 = S ∧ n0 = if (r_X5_comesBack p0 S) = 0 then 0 else 1) ∨ (k0 = 1 ∧ (p0 < -32 ∨ -5 < p0) ∧ S1 = S ∧ n0 = n)) : r_X7_thrown (r_X7_comesBack p0 T).2 = k0 ∧ (k0 = 0 → n0 = bzj (r_X7_comesBack p0 T).1) := by
  rcases D with ⟨rfl, g0, rfl, rfl⟩ | ⟨rfl, f0, rfl, rfl⟩
  · have e : r_X7_comesBack p0 T = r_X7_isArgument 1 T := by unfold r_X7_comesBack; rw [in_1 g0]
    rw [e, ok_comesBack _ g0]
    exact ⟨rfl, fun _ => rfl⟩
  · have e : r_X7_comesBack p0 T = r_X7_isArgument 0 T := by unfold r_X7_comesBack; rw [in_0 f0]
    rw [e]
    exact ⟨rfl, fun h => absurd h (by decide)⟩
