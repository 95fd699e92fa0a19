def RelL (_ : sX) (_ : sM) : Prop := True
theorem rk_quarter {S S1 : sX} {T T2 : sM} {p : Prop} (_ : RelL S T) (_ : p) : RelL S1 T2 := trivial
theorem rk_zero {S S1 : sX} {T T2 : sM} {p : Prop} (_ : RelL S T) (_ : p) : RelL S1 T2 := trivial
theorem rk_endless {S S1 : sX} {T T2 : sM} {p : Prop} (_ : RelL S T) (_ : p) : RelL S1 T2 := trivial
theorem rk_row {S S1 : sX} {T T2 : sM} {p : Prop} (_ : RelL S T) (_ : p) : RelL S1 T2 := trivial
theorem rk_wipe {S S1 : sX} {T T2 : sM} (_ : RelL S T) : RelL S1 T2 := trivial
theorem rk_copy {S S1 : sX} {T T2 : sM} {p : Prop} (_ : RelL S T) (_ : p) : RelL S1 T2 := trivial
theorem rk_swap {S S1 : sX} {T T2 : sM} {p : Prop} (_ : RelL S T) (_ : p) : RelL S1 T2 := trivial
theorem rk_step {S S1 : sX} {T T2 : sM} {p : Prop} (_ : RelL S T) (_ : p) : RelL S1 T2 := trivial
theorem rk_turn {S S1 : sX} {T T2 : sM} {p : Prop} (_ : RelL S T) (_ : p) : RelL S1 T2 := trivial
theorem rk_power {S S1 : sX} {T T2 : sM} {p : Prop} (_ : RelL S T) (_ : p) : RelL S1 T2 := trivial
theorem rk_lessen {S S1 : sX} {T T2 : sM} {p : Prop} (_ : RelL S T) (_ : p) : RelL S1 T2 := trivial
theorem rk_log {S S1 : sX} {T T2 : sM} {p : Prop} (_ : RelL S T) (_ : p) : RelL S1 T2 := trivial
theorem rk_all {S S1 : sX} {T T2 : sM} {p : Prop} (_ : RelL S T) (_ : p) : RelL S1 T2 := trivial
theorem rk_greater {S S1 : sX} {T T2 : sM} {p : Prop} (_ : RelL S T) (_ : p) : RelL S1 T2 := trivial
theorem rk_lesser {S S1 : sX} {T T2 : sM} {p : Prop} (_ : RelL S T) (_ : p) : RelL S1 T2 := trivial
theorem rk_end {S S1 : sX} {T T2 : sM} {p : Prop} (_ : RelL S T) (_ : p) : RelL S1 T2 := trivial
theorem rk_sort {S S1 : sX} {T T2 : sM} (_ : RelL S T) : RelL S1 T2 := trivial
theorem rk_kind {S S1 : sX} {T T2 : sM} {p : Prop} (_ : RelL S T) (_ : p) : RelL S1 T2 := trivial
theorem rk_of {S S1 : sX} {T T2 : sM} {p : Prop} (_ : RelL S T) (_ : p) : RelL S1 T2 := trivial
theorem rk_isBelow {S S1 : sX} {T T2 : sM} {p : Prop} (_ : RelL S T) (_ : p) : RelL S1 T2 := trivial
theorem rk_isZero {S S1 : sX} {T T2 : sM} {p : Prop} (_ : RelL S T) (_ : p) : RelL S1 T2 := trivial
theorem rk_isEndless {S S1 : sX} {T T2 : sM} {p : Prop} (_ : RelL S T) (_ : p) : RelL S1 T2 := trivial
theorem rk_whole {S S1 : sX} {T T2 : sM} {p : Prop} (_ : RelL S T) (_ : p) : RelL S1 T2 := trivial
theorem rk_height {S S1 : sX} {T T2 : sM} {p : Prop} (_ : RelL S T) (_ : p) : RelL S1 T2 := trivial
theorem rk_digits {S S1 : sX} {T T2 : sM} {p : Prop} (_ : RelL S T) (_ : p) : RelL S1 T2 := trivial
theorem rk_upper {S S1 : sX} {T T2 : sM} {p : Prop} (_ : RelL S T) (_ : p) : RelL S1 T2 := trivial
theorem rk_lower {S S1 : sX} {T T2 : sM} {p : Prop} (_ : RelL S T) (_ : p) : RelL S1 T2 := trivial
theorem rk_text {S S1 : sX} {T T2 : sM} (_ : RelL S T) : RelL S1 T2 := trivial
theorem rk_order {S S1 : sX} {T T2 : sM} {p : Prop} (_ : RelL S T) (_ : p) : RelL S1 T2 := trivial
theorem rk_isAlike {S S1 : sX} {T T2 : sM} {p : Prop} (_ : RelL S T) (_ : p) : RelL S1 T2 := trivial
theorem rk_isNear {S S1 : sX} {T T2 : sM} {p : Prop} (_ : RelL S T) (_ : p) : RelL S1 T2 := trivial
theorem rk_most {S S1 : sX} {T T2 : sM} {p : Prop} (_ : RelL S T) (_ : p) : RelL S1 T2 := trivial
theorem rk_isWithin {S S1 : sX} {T T2 : sM} {p : Prop} (_ : RelL S T) (_ : p) : RelL S1 T2 := trivial
theorem rk_find {S S1 : sX} {T T2 : sM} {p : Prop} (_ : RelL S T) (_ : p) : RelL S1 T2 := trivial
theorem rk_rank {S S1 : sX} {T T2 : sM} {p : Prop} (_ : RelL S T) (_ : p) : RelL S1 T2 := trivial
theorem rk_before {S S1 : sX} {T T2 : sM} {p : Prop} (_ : RelL S T) (_ : p) : RelL S1 T2 := trivial
theorem rk_answer {S S1 : sX} {T T2 : sM} {p : Prop} (_ : RelL S T) (_ : p) : RelL S1 T2 := trivial
theorem rk_below {S S1 : sX} {T T2 : sM} {p : Prop} (_ : RelL S T) (_ : p) : RelL S1 T2 := trivial
theorem rk_rises {S S1 : sX} {T T2 : sM} {p : Prop} (_ : RelL S T) (_ : p) : RelL S1 T2 := trivial
theorem rk_between {S S1 : sX} {T T2 : sM} {p : Prop} (_ : RelL S T) (_ : p) : RelL S1 T2 := trivial
theorem rk_lies {S S1 : sX} {T T2 : sM} {p : Prop} (_ : RelL S T) (_ : p) : RelL S1 T2 := trivial
theorem rk_undone {S S1 : sX} {T T2 : sM} {p : Prop} (_ : RelL S T) (_ : p) : RelL S1 T2 := trivial
theorem rk_comesBack {S S1 : sX} {T T2 : sM} {p : Prop} (_ : RelL S T) (_ : p) : RelL S1 T2 := trivial
theorem rk_comesForth {S S1 : sX} {T T2 : sM} {p : Prop} (_ : RelL S T) (_ : p) : RelL S1 T2 := trivial
theorem rk_opposite {S S1 : sX} {T T2 : sM} {p : Prop} (_ : RelL S T) (_ : p) : RelL S1 T2 := trivial
theorem rk_house {S S1 : sX} {T T2 : sM} {p : Prop} (_ : RelL S T) (_ : p) : RelL S1 T2 := trivial
theorem rk_knock {S S1 : sX} {T T2 : sM} (_ : RelL S T) : RelL S1 T2 := trivial
theorem rk_isSound {S S1 : sX} {T T2 : sM} (_ : RelL S T) : RelL S1 T2 := trivial
theorem rk_digest {S S1 : sX} {T T2 : sM} (_ : RelL S T) : RelL S1 T2 := trivial
theorem rl_0 : RelL (r_X5_init cX0) mS0 := trivial
theorem ck_answer {S S1 : sX} {T : sM} {k0 : Int32} {n n0 : Int64} {p0 p1 p2 : Int32} (hI : IM T) (hR : RelL S T) (D : (k0 = 0 ∧ (¬ p0 < 1 ∧ ¬ 3 < p0) ∧ (¬ p1 < (f_X4_firstQ p0) ∧ ¬ (f_X4_lastQ p0) < p1) ∧ (¬ p2 < -62 ∧ ¬ 90 < p2) ∧ (¬ (f_X1_roundedDown (f_X4_digitsAt p0 p1) p2) < -2147483648 ∧ ¬ 2147483647 < (f_X1_roundedDown (f_X4_digitsAt p0 p1) p2)) ∧ S1 = S ∧ n0 = (r_X5_answer p0 p1 p2 S).toInt64) ∨ (k0 = 1 ∧ (p0 < 1 ∨ 3 < p0) ∧ S1 = S ∧ n0 = n) ∨ (k0 = 1 ∧ (¬ p0 < 1 ∧ ¬ 3 < p0) ∧ (p1 < (f_X4_firstQ p0) ∨ (f_X4_lastQ p0) < p1) ∧ S1 = S ∧ n0 = n) ∨ (k0 = 1 ∧ (¬ p0 < 1 ∧ ¬ 3 < p0) ∧ (¬ p1 < (f_X4_firstQ p0) ∧ ¬ (f_X4_lastQ p0) < p1) ∧ (p2 < -62 ∨ 90 < p2) ∧ S1 = S ∧ n0 = n) ∨ (k0 = 2 ∧ (¬ p0 < 1 ∧ ¬ 3 < p0) ∧ (¬ p1 < (f_X4_firstQ p0) ∧ ¬ (f_X4_lastQ p0) < p1) ∧ (¬ p2 < -62 ∧ ¬ 90 < p2) ∧ ((f_X1_roundedDown (f_X4_digitsAt p0 p1) p2) < -2147483648 ∨ 2147483647 < (f_X1_roundedDown (f_X4_digitsAt p0 p1) p2)) ∧ S1 = S ∧ n0 = n)) : r_X7_thrown (r_X7_answer p0 p1 p2 T).2 = k0 ∧ (k0 = 0 → n0 = (r_X7_answer p0 p1 p2 T).1.toInt64) := by
  rcases D with ⟨rfl, gh, gq, gk, gx, rfl, rfl⟩ | ⟨rfl, fh, rfl, rfl⟩ | ⟨rfl, gh, fq, rfl, rfl⟩ | ⟨rfl, gh, gq, fk, rfl, rfl⟩ | ⟨rfl, gh, gq, gk, fx, rfl, rfl⟩
  · have gh' : ¬ p0 < 0 ∧ ¬ 3 < p0 := h30 gh
    obtain ⟨b1, b2⟩ := sb_e gh'
    have s := inS_f gh' gq
    obtain ⟨v1, v2⟩ := ser_v s
    have hv := ser_q s
    obtain ⟨n1, n5, n6⟩ := snk_n (q := p1) gh'
    obtain ⟨pl, l1, l2, l3, l4, l5⟩ := pl_k gk
    have W := wh_v hv n1 n5 n6 l4 l5 l1
    rw [v1] at gx
    have tt := ser_t (th 0 T) s
    have ep : ((2 ^ pl : Nat) : Int) = (2 : Int) ^ pl := Int.natCast_pow 2 pl
    have ii := isI (r_X7_trueIn p0 p1 (th 0 T)) l2
    have dd := dfr (r_X7_trueIn p0 p1 (th 0 T)) l2
    rw [tt, ← ep] at ii dd
    have io : r_X7_isOf p0 p1 T = 1 := by
      unfold r_X7_isOf
      rw [b1, b2]
      exact in_1 gq
    rw [i6_b] at gx
    have hy := W.1.mp gx
    rw [if_pos hy] at ii
    have e : r_X7_answer p0 p1 p2 T = (Int32.ofInt (tS (snk p0 p1) (snq p0 p1) / ((2 ^ pl : Nat) : Int)), th 0 T) := by
      unfold r_X7_answer
      rw [in_1 gh, it1, it1, io, it1, in_1 gk, it1, ism1, l3]
      refine (if_neg ?_).trans ((if_pos rfl).trans ?_)
      · show ¬ r_X7_isInt (Int32.ofNat pl) (r_X7_trueIn p0 p1 (th 0 T)) = 0
        rw [ii]
        decide
      · exact congrArg (fun x => (x, th 0 T)) dd
    have e2 : r_X5_answer p0 p1 p2 S1 = Int32.ofInt (tS (snk p0 p1) (snq p0 p1) / ((2 ^ pl : Nat) : Int)) := by
      unfold r_X5_answer r_X5_checkedInt
      rw [v1]
      exact t32_e (W.2 hy)
    rw [e, e2]
    exact ⟨rfl, fun _ => rfl⟩
  · have e : r_X7_answer p0 p1 p2 T = (0, th 1 T) := by
      unfold r_X7_answer
      rw [in_0 fh, it0, ism0]
      try rfl
    rw [e]
    exact ⟨rfl, fun h => absurd h (by decide)⟩
  · have gh' : ¬ p0 < 0 ∧ ¬ 3 < p0 := h30 gh
    obtain ⟨b1, b2⟩ := sb_e gh'
    have io : r_X7_isOf p0 p1 T = 0 := by
      unfold r_X7_isOf
      rw [b1, b2]
      exact in_0 fq
    have e : r_X7_answer p0 p1 p2 T = (0, th 1 T) := by
      unfold r_X7_answer
      rw [in_1 gh, it1, it1, io, it0, ism0]
      try rfl
    rw [e]
    exact ⟨rfl, fun h => absurd h (by decide)⟩
  · have gh' : ¬ p0 < 0 ∧ ¬ 3 < p0 := h30 gh
    obtain ⟨b1, b2⟩ := sb_e gh'
    have io : r_X7_isOf p0 p1 T = 1 := by
      unfold r_X7_isOf
      rw [b1, b2]
      exact in_1 gq
    have e : r_X7_answer p0 p1 p2 T = (0, th 1 T) := by
      unfold r_X7_answer
      rw [in_1 gh, it1, it1, io, it1, in_0 fk, it0, ism0]
      try rfl
    rw [e]
    exact ⟨rfl, fun h => absurd h (by decide)⟩
  · have gh' : ¬ p0 < 0 ∧ ¬ 3 < p0 := h30 gh
    obtain ⟨b1, b2⟩ := sb_e gh'
    have s := inS_f gh' gq
    obtain ⟨v1, v2⟩ := ser_v s
    have hv := ser_q s
    obtain ⟨n1, n5, n6⟩ := snk_n (q := p1) gh'
    obtain ⟨pl, l1, l2, l3, l4, l5⟩ := pl_k gk
    have W := wh_v hv n1 n5 n6 l4 l5 l1
    rw [v1] at fx
    have tt := ser_t (th 0 T) s
    have ep : ((2 ^ pl : Nat) : Int) = (2 : Int) ^ pl := Int.natCast_pow 2 pl
    have ii := isI (r_X7_trueIn p0 p1 (th 0 T)) l2
    have dd := dfr (r_X7_trueIn p0 p1 (th 0 T)) l2
    rw [tt, ← ep] at ii dd
    have io : r_X7_isOf p0 p1 T = 1 := by
      unfold r_X7_isOf
      rw [b1, b2]
      exact in_1 gq
    have fx2 : ¬ (¬ (f_X1_roundedDown (f_X1_digitsOf (enc (snk p0 p1) (snq p0 p1) 0)) p2) < -2147483648 ∧ ¬ 2147483647 < (f_X1_roundedDown (f_X1_digitsOf (enc (snk p0 p1) (snq p0 p1) 0)) p2)) := fun z => fx.elim z.1 z.2
    rw [i6_b] at fx2
    rw [if_neg (fun z => fx2 (W.1.mpr z))] at ii
    have e : r_X7_answer p0 p1 p2 T = (0, th 2 T) := by
      unfold r_X7_answer
      rw [in_1 gh, it1, it1, io, it1, in_1 gk, it1, ism1, l3]
      exact if_pos ii
    rw [e]
    exact ⟨rfl, fun h => absurd h (by decide)⟩

