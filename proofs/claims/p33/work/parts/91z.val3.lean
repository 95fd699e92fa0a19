/-! the rows that come to nothing -/
theorem qi_pw {a : Nat} (ha : 1 < a) {n K T : Nat} (hT : 0 < T) (h : T * a ^ n ≤ qB ^ 12) (hK : qB ^ 12 < a ^ K) : n < K := by
  refine Nat.lt_of_not_le fun h2 => ?_
  have h3 : a ^ K ≤ a ^ n := Nat.pow_le_pow_right (by omega) h2
  have h4 : 1 * a ^ n ≤ T * a ^ n := Nat.mul_le_mul_right _ hT
  rw [Nat.one_mul] at h4
  omega
def qi_root (n : Int32) (f : Nat → Int32) : Prop := 0 < n.toInt ∧ tv f 0 11 * 4 ^ n.toInt.toNat ≤ qB ^ 12
theorem qi_r0 (f : Nat → Int32) : qi_root 1 f := by
  refine ⟨by decide, ?_⟩
  have h := tv_lt f 11 0
  have e : (1 : Int32).toInt.toNat = 1 := rfl
  have e2 : qB ^ 12 = qB ^ 11 * qB := Nat.pow_succ qB 11
  have e3 : 4 ≤ qB := by rw [qB_e]; decide
  rw [e, Nat.pow_one, e2]
  exact Nat.mul_le_mul (Nat.le_of_lt h) e3
theorem qi_rb {n : Int32} {f : Nat → Int32} (h : qi_root n f) (hz : r_X7_isNothing f = 0) : n.toInt < 200 := by
  have h2 := qi_pw (a := 4) (by decide) (K := 200) (qv_pos hz) h.2 (by rw [qB_e]; decide +kernel)
  omega
theorem qi_4 {n : Int32} (h0 : 0 < n.toInt) (h1 : n.toInt < 200) : (4 * n).toInt = 4 * n.toInt := by
  have e : (4 : Int32).toInt = 4 := rfl
  rw [Int32.toInt_mul, e]
  exact Int.bmod_eq_of_le (by omega) (by omega)
theorem qi_nz {n : Int32} {f : Nat → Int32} (h : qi_root n f) (hz : r_X7_isNothing f = 0) : ¬ (4 * n).toInt64 = 0 := fun e => by
  have h1 := qi_4 h.1 (qi_rb h hz)
  have h2 : (4 * n).toInt64.toInt = (4 * n).toInt := Int32.toInt_toInt64 _
  rw [e] at h2
  have h3 : (0 : Int64).toInt = 0 := rfl
  have h4 := h.1
  omega
theorem qi_rd {n : Int32} {f : Nat → Int32} (h : qi_root n f) (hz : r_X7_isNothing f = 0) : 4 * tv (r_X7_divideA (4 * n) f) 0 11 ≤ tv f 0 11 := by
  have h1 := qi_4 h.1 (qi_rb h hz)
  have h4 := h.1
  rw [qv_divA (by omega)]
  have h5 : 4 ≤ (4 * n).toInt.toNat := by omega
  have h6 : tv f 0 11 / (4 * n).toInt.toNat ≤ tv f 0 11 / 4 := Nat.div_le_div_left h5 (by decide)
  omega
theorem qi_rn {n : Int32} {f : Nat → Int32} (h : qi_root n f) (hz : r_X7_isNothing f = 0) : qi_root (n + 1) (r_X7_divideA (4 * n) f) := by
  have h1 := qi_rb h hz
  have h2 := qi_rd h hz
  have h3 := h.1
  have e : (n + 1).toInt = n.toInt + 1 := by
    have e1 : (1 : Int32).toInt = 1 := rfl
    rw [qm_iadd (by omega) (by omega) (by decide) (by decide), e1]
  have e2 : (n + 1).toInt.toNat = n.toInt.toNat + 1 := by omega
  refine ⟨by omega, Nat.le_trans ?_ h.2⟩
  rw [e2, Nat.pow_succ, Nat.mul_comm (4 ^ n.toInt.toNat) 4, ← Nat.mul_assoc]
  refine Nat.mul_le_mul_right _ ?_
  omega
theorem qi_rt {n : Int32} {f : Nat → Int32} {fu : Nat} (h : qi_root n f) (hz : r_X7_isNothing f = 0) (hf : tv f 0 11 < fu + 1) : tv (r_X7_divideA (4 * n) f) 0 11 < fu := by
  have h1 := qi_rd h hz
  have h2 := qv_pos hz
  omega
def qi_rat (n : Int32) (f : Nat → Int32) : Prop := 0 < n.toInt ∧ tv f 0 11 * 2 ^ n.toInt.toNat ≤ qB ^ 12
theorem qi_a0 (f : Nat → Int32) : qi_rat 1 f := by
  refine ⟨by decide, ?_⟩
  have h := tv_lt f 11 0
  have e : (1 : Int32).toInt.toNat = 1 := rfl
  have e2 : qB ^ 12 = qB ^ 11 * qB := Nat.pow_succ qB 11
  have e3 : 2 ≤ qB := by rw [qB_e]; decide
  rw [e, Nat.pow_one, e2]
  exact Nat.mul_le_mul (Nat.le_of_lt h) e3
theorem qi_ab {n : Int32} {f : Nat → Int32} (h : qi_rat n f) (hz : r_X7_isNothing f = 0) : n.toInt < 400 := by
  have h2 := qi_pw (a := 2) (by decide) (K := 400) (qv_pos hz) h.2 (by rw [qB_e]; decide +kernel)
  omega
theorem qi_64 {n : Int32} (h : 0 < n.toInt) : ¬ n.toInt64 = 0 := fun e => by
  have h2 : n.toInt64.toInt = n.toInt := Int32.toInt_toInt64 _
  rw [e] at h2
  have h3 : (0 : Int64).toInt = 0 := rfl
  omega
theorem qi_sq {b : Int32} (h0 : 0 ≤ b.toInt) (h1 : b.toInt ≤ 1000) : (b * b).toInt = b.toInt * b.toInt := by
  have h2 : b.toInt * b.toInt ≤ 1000 * 1000 := Int.mul_le_mul h1 h1 h0 (by decide)
  have h3 : 0 ≤ b.toInt * b.toInt := Int.mul_nonneg h0 h0
  rw [Int32.toInt_mul]
  exact Int.bmod_eq_of_le (by omega) (by omega)
theorem qi_sp {b : Int32} (h0 : 0 < b.toInt) (h1 : b.toInt ≤ 1000) : 0 < (b * b).toInt := by
  rw [qi_sq (by omega) h1]
  exact Int.mul_pos h0 h0
theorem qi_a9 {s b R T : Nat} (h : 3 * s ≤ b) (hb : 0 < b) (hR : R ≤ s * s * T / (b * b)) : 9 * R ≤ T := by
  rcases Nat.eq_zero_or_pos s with rfl | hs
  · rw [Nat.zero_mul, Nat.zero_div] at hR
    omega
  · have h1 : R * (b * b) ≤ s * s * T := Nat.le_trans (Nat.mul_le_mul_right _ hR) (Nat.div_mul_le_self _ _)
    have h2 : 3 * s * (3 * s) ≤ b * b := Nat.mul_le_mul h h
    have h3 : R * (3 * s * (3 * s)) ≤ s * s * T := Nat.le_trans (Nat.mul_le_mul_left _ h2) h1
    have h4 : R * (3 * s * (3 * s)) = s * s * (9 * R) := by
      have e1 : 3 * s * (3 * s) = 9 * (s * s) := by
        rw [Nat.mul_mul_mul_comm]
      rw [e1, Nat.mul_comm R, Nat.mul_assoc, Nat.mul_comm (s * s), Nat.mul_comm 9, Nat.mul_comm (s * s), Nat.mul_assoc, Nat.mul_comm 9 R, Nat.mul_assoc R 9, Nat.mul_comm 9 (s * s), ← Nat.mul_assoc, Nat.mul_comm R, Nat.mul_assoc]
    rw [h4] at h3
    exact Nat.le_of_mul_le_mul_left h3 (Nat.mul_pos hs hs)
theorem qi_ad {s b : Int32} (hs0 : 0 ≤ s.toInt) (hb0 : 0 < b.toInt) (hb1 : b.toInt ≤ 1000) (hab : 3 * s.toInt ≤ b.toInt) (f : Nat → Int32) : 9 * tv (r_X7_divideA (b * b) (r_X7_multiply (s * s) f)) 0 11 ≤ tv f 0 11 := by
  have e1 := qi_sq (b := s) hs0 (by omega)
  have e2 := qi_sq (b := b) (by omega) hb1
  have p1 := qi_sp hb0 hb1
  have p2 : 0 ≤ s.toInt * s.toInt := Int.mul_nonneg hs0 hs0
  rw [qv_divA p1, qv_mulA (by rw [e1]; exact p2), e1, e2, Int.toNat_mul hs0 hs0, Int.toNat_mul (by omega) (by omega)]
  have h3 : 3 * s.toInt.toNat ≤ b.toInt.toNat := by omega
  exact qi_a9 h3 (by omega) (Nat.div_le_div_right (Nat.mod_le _ _))
theorem qi_an {n s b : Int32} {f : Nat → Int32} (hs0 : 0 ≤ s.toInt) (hb0 : 0 < b.toInt) (hb1 : b.toInt ≤ 1000) (hab : 3 * s.toInt ≤ b.toInt) (h : qi_rat n f) (hz : r_X7_isNothing f = 0) : qi_rat (n + 2) (r_X7_divideA (b * b) (r_X7_multiply (s * s) f)) := by
  have h1 := qi_ab h hz
  have h2 := qi_ad hs0 hb0 hb1 hab f
  have h3 := h.1
  have e : (n + 2).toInt = n.toInt + 2 := by
    have e1 : (2 : Int32).toInt = 2 := rfl
    rw [qm_iadd (by omega) (by omega) (by decide) (by decide), e1]
  have e2 : (n + 2).toInt.toNat = n.toInt.toNat + 2 := by omega
  refine ⟨by omega, Nat.le_trans ?_ h.2⟩
  have e4 : (2 : Nat) ^ 2 = 4 := rfl
  rw [e2, Nat.pow_add, e4, Nat.mul_comm (2 ^ n.toInt.toNat) 4, ← Nat.mul_assoc]
  refine Nat.mul_le_mul_right _ ?_
  omega
theorem qi_at {s b : Int32} {f : Nat → Int32} {fu : Nat} (hs0 : 0 ≤ s.toInt) (hb0 : 0 < b.toInt) (hb1 : b.toInt ≤ 1000) (hab : 3 * s.toInt ≤ b.toInt) (hz : r_X7_isNothing f = 0) (hf : tv f 0 11 < fu + 1) : tv (r_X7_divideA (b * b) (r_X7_multiply (s * s) f)) 0 11 < fu := by
  have h1 := qi_ad hs0 hb0 hb1 hab f
  have h2 := qv_pos hz
  omega
