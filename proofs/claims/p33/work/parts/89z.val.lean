/-! what a row of digits is worth -/
def qu (x : Int32) : Nat := x.toBitVec.toNat
def qB : Nat := 4294967296
theorem qB_e : qB = 4294967296 := by unfold qB; rfl
def tv (f : Nat → Int32) : Nat → Nat → Nat
  | _, 0 => 0
  | m, c + 1 => qu (f m) + qB * tv f (m + 1) c
theorem qu_lt (x : Int32) : qu x < 4294967296 := x.toBitVec.isLt
theorem qu_ltB (x : Int32) : qu x < qB := by rw [qB_e]; exact qu_lt x
theorem qa_1 {q B Y X : Nat} (h : q < B) (h2 : Y < X) : q + B * Y < B * X := by
  have h3 : B * (Y + 1) ≤ B * X := Nat.mul_le_mul_left B h2
  rw [Nat.mul_add] at h3
  omega
theorem tv_lt (f : Nat → Int32) : ∀ (c m : Nat), tv f m c < qB ^ c
  | 0, _ => by rw [Nat.pow_zero]; exact Nat.one_pos
  | c + 1, m => by
    rw [Nat.pow_succ, Nat.mul_comm]
    exact qa_1 (qu_ltB _) (tv_lt f c (m + 1))
theorem tv_snoc (f : Nat → Int32) : ∀ (c m : Nat), tv f m (c + 1) = tv f m c + qu (f (m + c)) * qB ^ c
  | 0, m => by rw [Nat.pow_zero, Nat.mul_one, tv, tv, tv, Nat.mul_zero, Nat.add_zero, Nat.zero_add, Nat.add_zero]
  | c + 1, m => by
    have h := tv_snoc f c (m + 1)
    have e2 : m + 1 + c = m + (c + 1) := by omega
    rw [tv, h, e2, Nat.mul_add, Nat.pow_succ, tv, Nat.add_assoc, Nat.mul_left_comm, Nat.mul_comm (qB ^ c) qB]
theorem tv_congr {f g : Nat → Int32} : ∀ (c m : Nat), (∀ j, m ≤ j → j < m + c → f j = g j) → tv f m c = tv g m c
  | 0, _, _ => rfl
  | c + 1, m, h => by
    rw [tv, tv, h m (Nat.le_refl _) (by omega), tv_congr c (m + 1) (fun j h1 h2 => h j (by omega) (by omega))]
theorem qv_lo (w : Int32) : (w.toInt64 &&& 4294967295).toInt = qu w := by
  have e : (w.toInt64 &&& 4294967295).toBitVec.toNat = qu w := by
    show (w.toBitVec.signExtend 64 &&& 4294967295#64).toNat = qu w
    rw [BitVec.toNat_and, show (4294967295#64 : BitVec 64).toNat = 2 ^ 32 - 1 from rfl, Nat.and_two_pow_sub_one_eq_mod, BitVec.toNat_signExtend, BitVec.toNat_setWidth]
    have h := w.toBitVec.isLt
    unfold qu
    by_cases hm : w.toBitVec.msb
    · rw [if_pos hm]; omega
    · rw [if_neg hm]; omega
  have h := qu_lt w
  show (w.toInt64 &&& 4294967295).toBitVec.toInt = _
  rw [BitVec.toInt_eq_toNat_of_lt (by omega), e]
theorem qv_ls {lf : Int64} (h0 : 0 ≤ lf.toInt) (h1 : lf.toInt < 2147483648) (w : Int32) : ((lf <<< ((32 : Int32).toInt64 &&& 63)) ||| (w.toInt64 &&& 4294967295)).toInt = lf.toInt * 4294967296 + qu w := by
  have hq := qu_lt w
  have e0 : lf.toBitVec.toNat = lf.toInt.toNat := by
    have : lf.toInt = lf.toBitVec.toInt := rfl
    have h3 := BitVec.toInt_eq_toNat_cond lf.toBitVec
    have h4 := lf.toBitVec.isLt
    split at h3 <;> omega
  have ew : (w.toInt64 &&& 4294967295).toBitVec.toNat = qu w := by
    have hw := qv_lo w
    have : (w.toInt64 &&& 4294967295).toInt = (w.toInt64 &&& 4294967295).toBitVec.toInt := rfl
    have h3 := BitVec.toInt_eq_toNat_cond (w.toInt64 &&& 4294967295).toBitVec
    have h4 := (w.toInt64 &&& 4294967295).toBitVec.isLt
    split at h3 <;> omega
  have e : ((lf <<< ((32 : Int32).toInt64 &&& 63)) ||| (w.toInt64 &&& 4294967295)).toBitVec.toNat = lf.toInt.toNat * 4294967296 + qu w := by
    have es : (lf <<< ((32 : Int32).toInt64 &&& 63)).toBitVec = lf.toBitVec <<< 32 := by
      rw [Int64.toBitVec_shiftLeft]
      rfl
    show ((lf <<< ((32 : Int32).toInt64 &&& 63)).toBitVec ||| (w.toInt64 &&& 4294967295).toBitVec).toNat = _
    rw [BitVec.toNat_or, ew, es, BitVec.toNat_shiftLeft, Nat.shiftLeft_eq, e0, Nat.mod_eq_of_lt (by omega)]
    have h5 := Nat.two_pow_add_eq_or_of_lt (i := 32) hq lf.toInt.toNat
    have h6 : (2 : Nat) ^ 32 = 4294967296 := by decide
    rw [h6] at h5 ⊢
    rw [Nat.mul_comm] at h5
    rw [← h5]
  show ((lf <<< ((32 : Int32).toInt64 &&& 63)) ||| (w.toInt64 &&& 4294967295)).toBitVec.toInt = _
  rw [BitVec.toInt_eq_toNat_of_lt (by omega), e]
  omega
theorem qv_qu {x : Int64} (h0 : 0 ≤ x.toInt) (h1 : x.toInt < 4294967296) : qu x.toInt32 = x.toInt.toNat := by
  rw [qu, Int64.toBitVec_toInt32, BitVec.toNat_signExtend, BitVec.toNat_setWidth]
  have e9 : (if x.toBitVec.msb = true then 2 ^ 32 - 2 ^ 64 else 0) = 0 := by split <;> rfl
  rw [e9, Nat.add_zero]
  have : x.toInt = x.toBitVec.toInt := rfl
  have h3 := BitVec.toInt_eq_toNat_cond x.toBitVec
  have h4 := x.toBitVec.isLt
  split at h3 <;> omega
theorem qv_divJ {a b : Int64} (h0 : 0 ≤ a.toInt) (hb : 0 < b.toInt) : (a / b).toInt = a.toInt / b.toInt := by
  have h1 := Int64.toInt_lt a
  rw [Int64.toInt_div, Int.tdiv_eq_ediv_of_nonneg h0]
  have h2 : a.toInt / b.toInt ≤ a.toInt := Int.ediv_le_self _ h0
  have h3 : 0 ≤ a.toInt / b.toInt := Int.ediv_nonneg h0 (Int.le_of_lt hb)
  exact Int.bmod_eq_of_le (by omega) (by omega)
theorem qv_modJ {a b : Int64} (h0 : 0 ≤ a.toInt) (hb : 0 < b.toInt) : (a - a / b * b).toInt = a.toInt % b.toInt := by
  have h1 := Int64.toInt_lt a
  have h4 := Int64.toInt_lt b
  have e := qv_divJ h0 hb
  have h2 : a.toInt / b.toInt * b.toInt + a.toInt % b.toInt = a.toInt := Int.ediv_mul_add_emod _ _
  have h3 : 0 ≤ a.toInt % b.toInt := Int.emod_nonneg _ (by omega)
  have h5 : a.toInt % b.toInt < b.toInt := Int.emod_lt_of_pos _ hb
  have h6 : 0 ≤ a.toInt / b.toInt := Int.ediv_nonneg h0 (Int.le_of_lt hb)
  have h7 : 0 ≤ a.toInt / b.toInt * b.toInt := Int.mul_nonneg h6 (Int.le_of_lt hb)
  have em : (a / b * b).toInt = a.toInt / b.toInt * b.toInt := by
    rw [Int64.toInt_mul, e]
    exact Int.bmod_eq_of_le (by omega) (by omega)
  rw [Int64.toInt_sub, em]
  rw [Int.bmod_eq_of_le (by omega) (by omega)]
  omega
theorem qv_nat {i : Int32} (h : ¬ i < 0) : i.toNatClampNeg = i.toInt.toNat := rfl
theorem upd_same (f : Nat → Int32) (m : Nat) (x : Int32) : upd f m x m = x := by simp [upd]
theorem upd_ne (f : Nat → Int32) {m j : Nat} (x : Int32) (h : j ≠ m) : upd f m x j = f j := by simp [upd, h]
theorem qa_div {b lf B w q r X Y : Nat} (hb : 0 < b) (h : lf * B + w = q * b + r) : (lf * (X * B) + (Y + w * X)) / b = (r * X + Y) / b + q * X := by
  have h1 : lf * (X * B) + w * X = b * (q * X) + r * X := by
    have h2 : (lf * B + w) * X = (q * b + r) * X := by rw [h]
    rw [Nat.add_mul, Nat.add_mul, Nat.mul_assoc, Nat.mul_comm B X] at h2
    rw [h2, Nat.mul_comm q b, Nat.mul_assoc]
  have h3 : lf * (X * B) + (Y + w * X) = b * (q * X) + (r * X + Y) := by omega
  rw [h3, Nat.mul_add_div hb, Nat.add_comm]
/-- one step of a division -/
theorem qv_st {by9 : Int32} (hb : 0 < by9.toInt) {lf : Int64} (hl0 : 0 ≤ lf.toInt) (hl1 : lf.toInt < by9.toInt) {w : Int32} {L : Int64} (eL : L.toInt = lf.toInt * 4294967296 + qu w) :
    0 ≤ (L - L / by9.toInt64 * by9.toInt64).toInt ∧ (L - L / by9.toInt64 * by9.toInt64).toInt < by9.toInt ∧ lf.toInt.toNat * qB + qu w = qu (L / by9.toInt64).toInt32 * by9.toInt.toNat + (L - L / by9.toInt64 * by9.toInt64).toInt.toNat := by
  have e3 : by9.toInt64.toInt = by9.toInt := Int32.toInt_toInt64 by9
  have hq := qu_lt w
  have hL0 : 0 ≤ L.toInt := by omega
  have eq1 := qv_divJ (b := by9.toInt64) hL0 (by omega)
  have eq2 := qv_modJ (b := by9.toInt64) hL0 (by omega)
  rw [e3] at eq1 eq2
  have r0 : 0 ≤ L.toInt % by9.toInt := Int.emod_nonneg _ (by omega)
  have r1 : L.toInt % by9.toInt < by9.toInt := Int.emod_lt_of_pos _ hb
  have hs := Int.ediv_mul_add_emod L.toInt by9.toInt
  have q0 : 0 ≤ L.toInt / by9.toInt := Int.ediv_nonneg hL0 (Int.le_of_lt hb)
  have q1 : L.toInt / by9.toInt < 4294967296 := by
    refine Int.ediv_lt_of_lt_mul hb ?_
    have h9 : (lf.toInt + 1) * 4294967296 ≤ by9.toInt * 4294967296 := Int.mul_le_mul_of_nonneg_right (by omega) (by decide)
    omega
  refine ⟨by rw [eq2]; exact r0, by rw [eq2]; exact r1, ?_⟩
  rw [qv_qu (by rw [eq1]; exact q0) (by rw [eq1]; exact q1), eq1, eq2, qB_e]
  have t1 : (((L.toInt / by9.toInt).toNat * by9.toInt.toNat : Nat) : Int) = L.toInt / by9.toInt * by9.toInt := by
    rw [Int.natCast_mul, Int.toNat_of_nonneg q0, Int.toNat_of_nonneg (Int.le_of_lt hb)]
  generalize (L.toInt / by9.toInt).toNat * by9.toInt.toNat = Z at t1 ⊢
  omega
theorem qv_div {by9 : Int32} (hb : 0 < by9.toInt) : ∀ (fu : Nat) (lf : Int64) (k : Int32) (f : Nat → Int32), (k.toInt + 1).toNat < fu → -1 ≤ k.toInt → 0 ≤ lf.toInt → lf.toInt < by9.toInt →
    tv (lr_X7_divideA_6 by9 fu lf k f) 0 (k.toInt + 1).toNat = (lf.toInt.toNat * qB ^ (k.toInt + 1).toNat + tv f 0 (k.toInt + 1).toNat) / by9.toInt.toNat ∧ ∀ j : Nat, k.toInt < j → lr_X7_divideA_6 by9 fu lf k f j = f j
  | 0, _, _, _, h, _, _, _ => absurd h (Nat.not_lt_zero _)
  | fu + 1, lf, k, f, h, hk, hl0, hl1 => by
    by_cases zc : k < 0
    · rw [lr_X7_divideA_6, if_pos zc]
      have z := Int32.lt_iff_toInt_lt.mp zc
      have e0 : (0 : Int32).toInt = 0 := rfl
      have e1 : (k.toInt + 1).toNat = 0 := by omega
      rw [e1]
      refine ⟨?_, fun _ _ => rfl⟩
      rw [tv, Nat.pow_zero, Nat.mul_one, Nat.add_zero, Nat.div_eq_of_lt (by omega)]
    · have hz := qm_z zc
      have hB := Int32.toInt_lt by9
      have ed := qm_decI zc
      have en : ((k + -1).toInt + 1).toNat = k.toInt.toNat := by omega
      have em : (k.toInt + 1).toNat = k.toInt.toNat + 1 := by omega
      have g1 : ((k + -1).toInt + 1).toNat < fu := by omega
      have g2 : -1 ≤ (k + -1).toInt := by omega
      have g3 : (k + -1).toInt < (k.toInt.toNat : Int) := by omega
      have g4 : ∀ j : Nat, k.toInt < j → (k + -1).toInt < j ∧ j ≠ k.toInt.toNat := fun j hj => by omega
      have g5 : 0 < by9.toInt.toNat := by omega
      have eL := qv_ls hl0 (by omega) (f k.toNatClampNeg)
      rw [lr_X7_divideA_6, if_neg zc]
      generalize ((lf <<< ((32 : Int32).toInt64 &&& 63)) ||| (((f k.toNatClampNeg).toInt64) &&& 4294967295)) = L at eL ⊢
      obtain ⟨s1, s2, s3⟩ := qv_st hb hl0 hl1 eL
      obtain ⟨i1, i2⟩ := qv_div hb fu (L - L / by9.toInt64 * by9.toInt64) (k + -1) (upd f k.toNatClampNeg (L / by9.toInt64).toInt32) g1 g2 s1 s2
      have ek : k.toNatClampNeg = k.toInt.toNat := rfl
      rw [en] at i1
      rw [ek] at i1 i2 s3 ⊢
      have j1 : lr_X7_divideA_6 by9 fu (L - L / by9.toInt64 * by9.toInt64) (k + -1) (upd f k.toInt.toNat (L / by9.toInt64).toInt32) k.toInt.toNat = (L / by9.toInt64).toInt32 := by
        rw [i2 k.toInt.toNat g3, upd_same]
      have j2 : tv (upd f k.toInt.toNat (L / by9.toInt64).toInt32) 0 k.toInt.toNat = tv f 0 k.toInt.toNat := tv_congr _ _ fun j _ hj => upd_ne _ _ (Nat.ne_of_lt (Nat.lt_of_lt_of_eq hj (Nat.zero_add _)))
      refine ⟨?_, fun j hj => ?_⟩
      · rw [em, tv_snoc, tv_snoc, Nat.zero_add, i1, j1, j2, Nat.pow_succ]
        exact (qa_div g5 s3).symm
      · rw [i2 j (g4 j hj).1]
        exact upd_ne _ _ (g4 j hj).2
theorem qv_divA {by9 : Int32} (hb : 0 < by9.toInt) (f : Nat → Int32) : tv (r_X7_divideA by9 f) 0 11 = tv f 0 11 / by9.toInt.toNat := by
  have h := (qv_div hb 12 (0 : Int64) (10 : Int32) f (by decide) (by decide) (by decide) hb).1
  have e : ((10 : Int32).toInt + 1).toNat = 11 := rfl
  have e0 : (0 : Int64).toInt.toNat = 0 := rfl
  rw [e, e0, Nat.zero_mul, Nat.zero_add] at h
  exact h
