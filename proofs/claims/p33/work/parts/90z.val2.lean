/-! multiplication of a row by a small number -/
theorem qa_mul {B x T y Z c : Nat} (hB : 0 < B) (h : T = (x / B + y) % c) (hz : Z = x + B * y) : x % B + B * T = Z % (B * c) := by
  rw [hz, Nat.mod_mul, h, Nat.add_mul_mod_self_left, Nat.add_mul_div_left _ _ hB]
theorem qv_mst {by9 : Int32} (h0 : 0 ≤ by9.toInt) {cy : Int64} (c0 : 0 ≤ cy.toInt) (c1 : cy.toInt ≤ 4294967296) (w : Int32) :
    0 ≤ (cy + ((w.toInt64 &&& 4294967295) * by9.toInt64)).toInt ∧ (cy + ((w.toInt64 &&& 4294967295) * by9.toInt64)).toInt = cy.toInt + qu w * by9.toInt ∧ (cy + ((w.toInt64 &&& 4294967295) * by9.toInt64)).toInt < 9223372036854775808 := by
  have e3 : by9.toInt64.toInt = by9.toInt := Int32.toInt_toInt64 by9
  have hw := qv_lo w
  have hq := qu_lt w
  have hb := Int32.toInt_lt by9
  have m0 : 0 ≤ (qu w : Int) * by9.toInt := Int.mul_nonneg (by omega) h0
  have m1 : (qu w : Int) * by9.toInt ≤ 4294967295 * 2147483647 := Int.mul_le_mul (by omega) (by omega) h0 (by decide)
  have em : ((w.toInt64 &&& 4294967295) * by9.toInt64).toInt = qu w * by9.toInt := by
    rw [Int64.toInt_mul, hw, e3]
    exact Int.bmod_eq_of_le (by omega) (by omega)
  have ea : (cy + ((w.toInt64 &&& 4294967295) * by9.toInt64)).toInt = cy.toInt + qu w * by9.toInt := by
    rw [Int64.toInt_add, em]
    exact Int.bmod_eq_of_le (by omega) (by omega)
  rw [ea]
  exact ⟨by omega, rfl, by omega⟩
theorem qv_lo32 (x : Int64) (h0 : 0 ≤ x.toInt) : qu x.toInt32 = x.toInt.toNat % qB := by
  rw [qu, Int64.toBitVec_toInt32, BitVec.toNat_signExtend, BitVec.toNat_setWidth]
  have e9 : (if x.toBitVec.msb = true then 2 ^ 32 - 2 ^ 64 else 0) = 0 := by split <;> rfl
  rw [e9, Nat.add_zero]
  have : x.toInt = x.toBitVec.toInt := rfl
  have h3 := BitVec.toInt_eq_toNat_cond x.toBitVec
  have h4 := x.toBitVec.isLt
  rw [qB_e]
  split at h3 <;> omega
theorem qv_hi32 (x : Int64) (h0 : 0 ≤ x.toInt) : (x.toUInt64 >>> ((32 : Int32).toInt64.toUInt64 &&& Int64.toUInt64 63)).toInt64.toInt = x.toInt / 4294967296 := by
  have es : (x.toUInt64 >>> ((32 : Int32).toInt64.toUInt64 &&& Int64.toUInt64 63)).toInt64.toBitVec = x.toBitVec >>> 32 := by
    show (x.toUInt64 >>> ((32 : Int32).toInt64.toUInt64 &&& Int64.toUInt64 63)).toBitVec = _
    rw [UInt64.toBitVec_shiftRight]
    rfl
  have : x.toInt = x.toBitVec.toInt := rfl
  have h3 := BitVec.toInt_eq_toNat_cond x.toBitVec
  have h4 := x.toBitVec.isLt
  have e : (x.toBitVec >>> 32).toNat = x.toBitVec.toNat / 4294967296 := by
    rw [BitVec.toNat_ushiftRight, Nat.shiftRight_eq_div_pow]
  show (x.toUInt64 >>> ((32 : Int32).toInt64.toUInt64 &&& Int64.toUInt64 63)).toInt64.toBitVec.toInt = _
  rw [es, BitVec.toInt_eq_toNat_of_lt (by rw [e]; omega), e]
  split at h3 <;> omega
theorem qv_mul {by9 : Int32} (h0 : 0 ≤ by9.toInt) : ∀ (fu c : Nat) (cy : Int64) (k : Int32) (f : Nat → Int32), k.toInt + c = 11 → c < fu → 0 ≤ k.toInt → 0 ≤ cy.toInt → cy.toInt ≤ 4294967296 →
    tv (lr_X7_multiply_5 by9 fu cy k f) k.toInt.toNat c = (cy.toInt.toNat + by9.toInt.toNat * tv f k.toInt.toNat c) % qB ^ c ∧ ∀ j : Nat, (j : Int) < k.toInt → lr_X7_multiply_5 by9 fu cy k f j = f j
  | 0, _, _, _, _, _, h, _, _, _ => absurd h (Nat.not_lt_zero _)
  | fu + 1, c, cy, k, f, hc, hf, hk, c0, c1 => by
    have e11 : (11 : Int32).toInt = 11 := rfl
    by_cases zc : 11 ≤ k
    · rw [lr_X7_multiply_5, if_pos zc]
      have z := Int32.le_iff_toInt_le.mp zc
      have e0 : c = 0 := by omega
      subst e0
      refine ⟨?_, fun _ _ => rfl⟩
      rw [tv, Nat.pow_zero, Nat.mod_one]
    · have z := qm_lt zc
      obtain ⟨d, rfl⟩ : ∃ d, c = d + 1 := ⟨c - 1, by omega⟩
      have ei := qm_inc zc
      have g1 : (k + 1).toInt + d = 11 := by omega
      have g2 : d < fu := by omega
      have g3 : 0 ≤ (k + 1).toInt := by omega
      have ek : k.toNatClampNeg = k.toInt.toNat := rfl
      have en : (k + 1).toInt.toNat = k.toInt.toNat + 1 := by omega
      have g4 : (k.toInt.toNat : Int) < (k + 1).toInt := by omega
      have g5 : ∀ j : Nat, (j : Int) < k.toInt → (j : Int) < (k + 1).toInt ∧ j ≠ k.toInt.toNat := fun j hj => by omega
      obtain ⟨s0, s1, s2⟩ := qv_mst h0 c0 c1 (f k.toNatClampNeg)
      rw [lr_X7_multiply_5, if_neg zc]
      generalize (cy + ((((f k.toNatClampNeg).toInt64) &&& 4294967295) * by9.toInt64)) = L at s0 s1 s2 ⊢
      have h1 := qv_hi32 L s0
      have h2 := qv_lo32 L s0
      have g6 : 0 ≤ (L.toUInt64 >>> ((32 : Int32).toInt64.toUInt64 &&& Int64.toUInt64 63)).toInt64.toInt := by rw [h1]; omega
      have g7 : (L.toUInt64 >>> ((32 : Int32).toInt64.toUInt64 &&& Int64.toUInt64 63)).toInt64.toInt ≤ 4294967296 := by rw [h1]; omega
      obtain ⟨i1, i2⟩ := qv_mul h0 fu d (L.toUInt64 >>> ((32 : Int32).toInt64.toUInt64 &&& Int64.toUInt64 63)).toInt64 (k + 1) (upd f k.toNatClampNeg L.toInt32) g1 g2 g3 g6 g7
      rw [ek] at i1 i2 s1 ⊢
      rw [en] at i1
      have j1 := i2 k.toInt.toNat g4
      rw [upd_same] at j1
      have j2 : tv (upd f k.toInt.toNat L.toInt32) (k.toInt.toNat + 1) d = tv f (k.toInt.toNat + 1) d := tv_congr _ _ fun j hj _ => upd_ne _ _ (Nat.ne_of_gt hj)
      have g8 : (L.toUInt64 >>> ((32 : Int32).toInt64.toUInt64 &&& Int64.toUInt64 63)).toInt64.toInt.toNat = L.toInt.toNat / qB := by
        rw [h1, qB_e]
        omega
      have g9 : L.toInt.toNat = cy.toInt.toNat + by9.toInt.toNat * qu (f k.toInt.toNat) := by
        have t1 : ((by9.toInt.toNat * qu (f k.toInt.toNat) : Nat) : Int) = qu (f k.toInt.toNat) * by9.toInt := by
          rw [Int.natCast_mul, Int.toNat_of_nonneg h0, Int.mul_comm]
        generalize by9.toInt.toNat * qu (f k.toInt.toNat) = Z at t1 ⊢
        omega
      refine ⟨?_, fun j hj => ?_⟩
      · rw [tv, i1, j1, j2, h2, g8, tv, Nat.pow_succ, Nat.mul_comm (qB ^ d) qB]
        refine qa_mul (by rw [qB_e]; decide) rfl ?_
        rw [g9, Nat.mul_add, Nat.add_assoc, Nat.mul_left_comm]
      · rw [i2 j (g5 j hj).1]
        exact upd_ne _ _ (g5 j hj).2
theorem qv_mulA {by9 : Int32} (h0 : 0 ≤ by9.toInt) (f : Nat → Int32) : tv (r_X7_multiply by9 f) 0 11 = by9.toInt.toNat * tv f 0 11 % qB ^ 11 := by
  have h := (qv_mul h0 12 11 (0 : Int64) (0 : Int32) f (by decide) (by decide) (by decide) (by decide) (by decide)).1
  have e : (0 : Int32).toInt.toNat = 0 := rfl
  have e0 : (0 : Int64).toInt.toNat = 0 := rfl
  rw [e, e0, Nat.zero_add] at h
  exact h
/-! a row of noughts -/
theorem tv_zero {f : Nat → Int32} : ∀ (c m : Nat), tv f m c = 0 → ∀ j, m ≤ j → j < m + c → f j = 0
  | 0, _, _, j, h1, h2 => by omega
  | c + 1, m, h, j, h1, h2 => by
    rw [tv] at h
    have a1 : qu (f m) = 0 := by omega
    have a2 : qB * tv f (m + 1) c = 0 := by omega
    have a3 : tv f (m + 1) c = 0 := (Nat.mul_eq_zero.mp a2).resolve_left (by rw [qB_e]; decide)
    by_cases e : j = m
    · rw [e]
      exact Int32.toBitVec_inj.mp (BitVec.eq_of_toNat_eq a1)
    · exact tv_zero c (m + 1) a3 j (by omega) (by omega)
theorem qv_not {f : Nat → Int32} (h : ∀ j, j < 11 → f j = 0) : ∀ (fu : Nat) (k : Int32), ((11 : Int32).toInt - k.toInt).toNat < fu → 0 ≤ k.toInt → lr_X7_isNothing_7 f fu k = 1
  | 0, _, z, _ => absurd z (Nat.not_lt_zero _)
  | fu + 1, k, z, hk => by
    by_cases zc : 11 ≤ k
    · rw [lr_X7_isNothing_7, if_pos zc]
    · have z1 := qm_lt zc
      have e11 : (11 : Int32).toInt = 11 := rfl
      rw [lr_X7_isNothing_7, if_neg zc, if_pos (h _ (by show k.toInt.toNat < 11; omega))]
      refine qv_not h fu (k + 1) (qm_up zc z) ?_
      rw [qm_inc zc]
      omega
theorem qv_pos {f : Nat → Int32} (h : r_X7_isNothing f = 0) : 0 < tv f 0 11 := by
  refine Nat.pos_of_ne_zero fun e => ?_
  have h2 : r_X7_isNothing f = 1 := qv_not (fun j hj => tv_zero 11 0 e j (Nat.zero_le _) (by omega)) 12 0 (by decide) (by decide)
  rw [h] at h2
  exact absurd h2 (by decide)
