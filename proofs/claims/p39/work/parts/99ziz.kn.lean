def RelL (_ : sX) (_ : sM) : Prop := True
theorem rk_quarter {S S1 : sX} {T T2 : sM} {p : Prop} (_ : RelL S T) (_ : p) : RelL S1 T2 := trivial
theorem rk_zero {S S1 : sX} {T T2 : sM} {p : Prop} (_ : RelL S T) (_ : p) : RelL S1 T2 := trivial
theorem rk_endless {S S1 : sX} {T T2 : sM} {p : Prop} (_ : RelL S T) (_ : p) : RelL S1 T2 := trivial
theorem rk_row {S S1 : sX} {T T2 : sM} {p : Prop} (_ : RelL S T) (_ : p) : RelL S1 T2 := trivial
theorem rk_wipe {S S1 : sX} {T T2 : sM} (_ : RelL S T) : RelL S1 T2 := trivial
theorem rk_copy {S S1 : sX} {T T2 : sM} {p : Prop} (_ : RelL S T) (_ : p) : RelL S1 T2 := trivial
theorem rk_swap {S S1 : sX} {T T2 : sM} {p : Prop} (_ : RelL S T) (_ : p) : RelL S1 T2 := trivial
theorem rk_step {S S1 : sX} {T T2 : sM} {p : Prop} (_ : RelL S T) (_ : p) : RelL S1 T2 := trivial
theorem rk_turn {S S1 : sX} {T T2 : sM} {p : Prop} (_ : RelL S T) (_ : p) : RelL S1 T2 := trivial
theorem rk_power {S S1 : sX} {T T2 : sM} {p : Prop} (_ : RelL S T) (_ : p) : RelL S1 T2 := trivial
theorem rk_lessen {S S1 : sX} {T T2 : sM} {p : Prop} (_ : RelL S T) (_ : p) : RelL S1 T2 := trivial
theorem rk_log {S S1 : sX} {T T2 : sM} {p : Prop} (_ : RelL S T) (_ : p) : RelL S1 T2 := trivial
theorem rk_all {S S1 : sX} {T T2 : sM} {p : Prop} (_ : RelL S T) (_ : p) : RelL S1 T2 := trivial
theorem rk_greater {S S1 : sX} {T T2 : sM} {p : Prop} (_ : RelL S T) (_ : p) : RelL S1 T2 := trivial
theorem rk_lesser {S S1 : sX} {T T2 : sM} {p : Prop} (_ : RelL S T) (_ : p) : RelL S1 T2 := trivial
theorem rk_end {S S1 : sX} {T T2 : sM} {p : Prop} (_ : RelL S T) (_ : p) : RelL S1 T2 := trivial
theorem rk_sort {S S1 : sX} {T T2 : sM} (_ : RelL S T) : RelL S1 T2 := trivial
theorem rk_kind {S S1 : sX} {T T2 : sM} {p : Prop} (_ : RelL S T) (_ : p) : RelL S1 T2 := trivial
theorem rk_of {S S1 : sX} {T T2 : sM} {p : Prop} (_ : RelL S T) (_ : p) : RelL S1 T2 := trivial
theorem rk_isBelow {S S1 : sX} {T T2 : sM} {p : Prop} (_ : RelL S T) (_ : p) : RelL S1 T2 := trivial
theorem rk_isZero {S S1 : sX} {T T2 : sM} {p : Prop} (_ : RelL S T) (_ : p) : RelL S1 T2 := trivial
theorem rk_isEndless {S S1 : sX} {T T2 : sM} {p : Prop} (_ : RelL S T) (_ : p) : RelL S1 T2 := trivial
theorem rk_whole {S S1 : sX} {T T2 : sM} {p : Prop} (_ : RelL S T) (_ : p) : RelL S1 T2 := trivial
theorem rk_height {S S1 : sX} {T T2 : sM} {p : Prop} (_ : RelL S T) (_ : p) : RelL S1 T2 := trivial
theorem rk_digits {S S1 : sX} {T T2 : sM} {p : Prop} (_ : RelL S T) (_ : p) : RelL S1 T2 := trivial
theorem rk_upper {S S1 : sX} {T T2 : sM} {p : Prop} (_ : RelL S T) (_ : p) : RelL S1 T2 := trivial
theorem rk_lower {S S1 : sX} {T T2 : sM} {p : Prop} (_ : RelL S T) (_ : p) : RelL S1 T2 := trivial
theorem rk_text {S S1 : sX} {T T2 : sM} (_ : RelL S T) : RelL S1 T2 := trivial
theorem rk_order {S S1 : sX} {T T2 : sM} {p : Prop} (_ : RelL S T) (_ : p) : RelL S1 T2 := trivial
theorem rk_isAlike {S S1 : sX} {T T2 : sM} {p : Prop} (_ : RelL S T) (_ : p) : RelL S1 T2 := trivial
theorem rk_isNear {S S1 : sX} {T T2 : sM} {p : Prop} (_ : RelL S T) (_ : p) : RelL S1 T2 := trivial
theorem rk_most {S S1 : sX} {T T2 : sM} {p : Prop} (_ : RelL S T) (_ : p) : RelL S1 T2 := trivial
theorem rk_isWithin {S S1 : sX} {T T2 : sM} {p : Prop} (_ : RelL S T) (_ : p) : RelL S1 T2 := trivial
theorem rk_find {S S1 : sX} {T T2 : sM} {p : Prop} (_ : RelL S T) (_ : p) : RelL S1 T2 := trivial
theorem rk_rank {S S1 : sX} {T T2 : sM} {p : Prop} (_ : RelL S T) (_ : p) : RelL S1 T2 := trivial
theorem rk_before {S S1 : sX} {T T2 : sM} {p : Prop} (_ : RelL S T) (_ : p) : RelL S1 T2 := trivial
theorem rk_answer {S S1 : sX} {T T2 : sM} {p : Prop} (_ : RelL S T) (_ : p) : RelL S1 T2 := trivial
theorem rk_below {S S1 : sX} {T T2 : sM} {p : Prop} (_ : RelL S T) (_ : p) : RelL S1 T2 := trivial
theorem rk_rises {S S1 : sX} {T T2 : sM} {p : Prop} (_ : RelL S T) (_ : p) : RelL S1 T2 := trivial
theorem rk_between {S S1 : sX} {T T2 : sM} {p : Prop} (_ : RelL S T) (_ : p) : RelL S1 T2 := trivial
theorem rk_lies {S S1 : sX} {T T2 : sM} {p : Prop} (_ : RelL S T) (_ : p) : RelL S1 T2 := trivial
theorem rk_undone {S S1 : sX} {T T2 : sM} {p : Prop} (_ : RelL S T) (_ : p) : RelL S1 T2 := trivial
theorem rk_comesBack {S S1 : sX} {T T2 : sM} {p : Prop} (_ : RelL S T) (_ : p) : RelL S1 T2 := trivial
theorem rk_comesForth {S S1 : sX} {T T2 : sM} {p : Prop} (_ : RelL S T) (_ : p) : RelL S1 T2 := trivial
theorem rk_opposite {S S1 : sX} {T T2 : sM} {p : Prop} (_ : RelL S T) (_ : p) : RelL S1 T2 := trivial
theorem rk_house {S S1 : sX} {T T2 : sM} {p : Prop} (_ : RelL S T) (_ : p) : RelL S1 T2 := trivial
theorem rk_knock {S S1 : sX} {T T2 : sM} (_ : RelL S T) : RelL S1 T2 := trivial
theorem rk_isSound {S S1 : sX} {T T2 : sM} (_ : RelL S T) : RelL S1 T2 := trivial
theorem rk_digest {S S1 : sX} {T T2 : sM} (_ : RelL S T) : RelL S1 T2 := trivial
theorem rl_0 : RelL (r_X5_init cX0) mS0 := trivial
theorem ck_below {S S1 : sX} {T : sM} {k0 : Int32} {n n0 : Int64} {p0 p1 p2 : Int32} (hI : IM T) (hR : RelL S T) (D : (k0 = 0 ∧ (¬ p0 < 0 ∧ ¬ 3 < p0) ∧ (¬ p2 < -62 ∧ ¬ 90 < p2) ∧ S1 = S ∧ n0 = (r_X5_below p0 p1 p2 S).toInt64) ∨ (k0 = 1 ∧ (p0 < 0 ∨ 3 < p0) ∧ S1 = S ∧ n0 = n) ∨ (k0 = 1 ∧ (¬ p0 < 0 ∧ ¬ 3 < p0) ∧ (p2 < -62 ∨ 90 < p2) ∧ S1 = S ∧ n0 = n)) : r_X7_thrown (r_X7_below p0 p1 p2 T).2 = k0 ∧ (k0 = 0 → n0 = (r_X7_below p0 p1 p2 T).1.toInt64) := by
  rcases D with ⟨rfl, gh, gk, rfl, rfl⟩ | ⟨rfl, fh, rfl, rfl⟩ | ⟨rfl, gh, fk, rfl, rfl⟩
  · have e : r_X7_below p0 p1 p2 T = (r_X7_less p0 (r_X7_placed p1 (256 - p2)) (th 0 T), th 0 T) := by
      unfold r_X7_below
      rw [in_1 gh, it1, in_1 gk, it1, is1, q1c]
    have e2 : r_X5_below p0 p1 p2 S1 = r_X7_less p0 (r_X7_placed p1 (256 - p2)) (th 0 T) := bel_v (th 0 T) gh gk
    rw [e, e2]
    exact ⟨rfl, fun _ => rfl⟩
  · have e : r_X7_below p0 p1 p2 T = (0, th 1 T) := by
      unfold r_X7_below
      rw [in_0 fh, it0, is0, q0c]
      try rfl
    rw [e]
    exact ⟨rfl, fun h => absurd h (by decide)⟩
  · have e : r_X7_below p0 p1 p2 T = (0, th 1 T) := by
      unfold r_X7_below
      rw [in_1 gh, it1, in_0 fk, it0, is0, q0c]
      try rfl
    rw [e]
    exact ⟨rfl, fun h => absurd h (by decide)⟩

