/-! whole numbers, placed -/
theorem pl_p {r : Nat} (hr : r < 32) : (2 : Int) ^ r ≤ 2147483648 ∧ (0 : Int) < 2 ^ r := by
  have h1 : (2 : Nat) ^ r ≤ 2147483648 := Nat.pow_le_pow_right (n := 2) (by decide) (show r ≤ 31 by omega)
  have h2 : (0 : Nat) < 2 ^ r := Nat.pow_pos (by decide)
  have e : (((2 : Nat) ^ r : Nat) : Int) = (2 : Int) ^ r := Int.natCast_pow 2 r
  rw [← e]
  generalize (2 : Nat) ^ r = X at *
  omega
theorem pl_s1 : ∀ r : Nat, r < 32 → ((Int32.ofNat r).toInt64 &&& 63).toBitVec.smod 64 = BitVec.ofNat 64 r := by decide +kernel
theorem pl_s3 (x : Int64) {r : Nat} (hr : r < 32) (h1 : -2147483648 ≤ x.toInt) (h2 : x.toInt ≤ 2147483647) : (x <<< ((Int32.ofNat r).toInt64 &&& 63)).toInt = x.toInt * 2 ^ r := by
  have es : (x <<< ((Int32.ofNat r).toInt64 &&& 63)).toBitVec = x.toBitVec <<< r := by
    rw [Int64.toBitVec_shiftLeft, pl_s1 r hr]
    apply BitVec.eq_of_toNat_eq
    rw [BitVec.shiftLeft_eq', BitVec.toNat_ofNat, Nat.mod_eq_of_lt (by omega)]
  obtain ⟨hp, hp0⟩ := pl_p hr
  have b1 : x.toInt * 2 ^ r ≤ 2147483647 * 2 ^ r := Int.mul_le_mul_of_nonneg_right h2 (Int.le_of_lt hp0)
  have b2 : (-2147483648) * 2 ^ r ≤ x.toInt * 2 ^ r := Int.mul_le_mul_of_nonneg_right h1 (Int.le_of_lt hp0)
  have e : (((2 : Nat) ^ r : Nat) : Int) = (2 : Int) ^ r := Int.natCast_pow 2 r
  have ex : x.toInt = x.toBitVec.toInt := rfl
  have ec := BitVec.toInt_eq_toNat_cond x.toBitVec
  show (x <<< ((Int32.ofNat r).toInt64 &&& 63)).toBitVec.toInt = _
  rw [es, BitVec.toInt_shiftLeft, Nat.shiftLeft_eq, Int.natCast_mul, e, ex]
  rw [← ex] at ec
  have e64 : (2 : Nat) ^ 64 = 18446744073709551616 := by decide
  rw [e64] at ec ⊢
  have hx := x.toBitVec.isLt
  rw [← ex]
  split at ec
  · rw [← ec]
    exact Int.bmod_eq_of_le (by omega) (by omega)
  · have e2 : (x.toBitVec.toNat : Int) * 2 ^ r = x.toInt * 2 ^ r + ((18446744073709551616 : Nat) : Int) * 2 ^ r := by
      rw [← Int.add_mul]
      congr 1
      omega
    rw [e2, Int.add_mul_bmod_self_left]
    exact Int.bmod_eq_of_le (by omega) (by omega)
theorem qa_em (x B c : Int) (hB : 0 < B) (hc : 0 < c) : x % B + B * (x / B % c) = x % (B * c) := by
  have h1 := Int.emod_add_mul_ediv x B
  have h2 := Int.emod_add_mul_ediv (x / B) c
  have h3 : x = (x % B + B * (x / B % c)) + (B * c) * (x / B / c) := by
    have : B * (x / B) = B * (x / B % c) + (B * c) * (x / B / c) := by
      rw [Int.mul_assoc, ← Int.mul_add, h2]
    omega
  have l0 := Int.emod_nonneg x (Int.ne_of_gt hB)
  have l1 := Int.emod_lt_of_pos x hB
  have l2 := Int.emod_nonneg (x / B) (Int.ne_of_gt hc)
  have l3 := Int.emod_lt_of_pos (x / B) hc
  have l4 : 0 ≤ B * (x / B % c) := Int.mul_nonneg (Int.le_of_lt hB) l2
  have l5 : B * (x / B % c) ≤ B * (c - 1) := Int.mul_le_mul_of_nonneg_left (by omega) (Int.le_of_lt hB)
  have l6 : B * (c - 1) = B * c - B := by rw [Int.mul_sub, Int.mul_one]
  have h4 : x % (B * c) = ((x % B + B * (x / B % c)) + (B * c) * (x / B / c)) % (B * c) := congrArg (· % (B * c)) h3
  rw [h4, Int.add_mul_emod_self_left]
  exact (Int.emod_eq_of_lt (by omega) (by omega)).symm


theorem pl_shr (x : Int64) : (x >>> ((32 : Int32).toInt64 &&& 63)).toInt = x.toInt / 4294967296 := by
  have es : (x >>> ((32 : Int32).toInt64 &&& 63)).toBitVec = x.toBitVec.sshiftRight 32 := by
    rw [Int64.toBitVec_shiftRight]
    rfl
  show (x >>> ((32 : Int32).toInt64 &&& 63)).toBitVec.toInt = _
  rw [es, BitVec.toInt_sshiftRight, Int.shiftRight_eq_div_pow]
  rfl
theorem pl_lo (x : Int64) : (qu x.toInt32 : Int) = x.toInt % 4294967296 := by
  rw [un_lo32, qB_e]
  unfold un
  have ex : x.toInt = x.toBitVec.toInt := rfl
  have ec := BitVec.toInt_eq_toNat_cond x.toBitVec
  have e64 : (2 : Nat) ^ 64 = 18446744073709551616 := by decide
  rw [e64] at ec
  rw [ex, ec]
  split <;> omega
theorem qv_plc (n9 pl9 : Int32) : ∀ (fu c : Nat) (its : Int64) (k : Int32) (f : Nat → Int32), k.toInt + c = 11 → c < fu → 0 ≤ k.toInt →
    (tv (lr_X7_placed_19 n9 pl9 fu its k f) k.toInt.toNat c : Int) = its.toInt % (qB : Int) ^ c ∧ ∀ j : Nat, (j : Int) < k.toInt → lr_X7_placed_19 n9 pl9 fu its k f j = f j
  | 0, _, _, _, _, _, h, _ => absurd h (Nat.not_lt_zero _)
  | fu + 1, c, its, k, f, hc, hf, hk => by
    have e11 : (11 : Int32).toInt = 11 := rfl
    by_cases zc : 11 ≤ k
    · rw [lr_X7_placed_19, if_pos zc]
      have z := Int32.le_iff_toInt_le.mp zc
      have e0 : c = 0 := by omega
      subst e0
      exact ⟨by rw [tv, Int.pow_zero, Int.emod_one]; rfl, fun _ _ => rfl⟩
    · have z := qm_lt zc
      obtain ⟨d, rfl⟩ : ∃ d, c = d + 1 := ⟨c - 1, by omega⟩
      have ei := qm_inc zc
      have ek : k.toNatClampNeg = k.toInt.toNat := rfl
      have en : (k + 1).toInt.toNat = k.toInt.toNat + 1 := by omega
      rw [lr_X7_placed_19, if_neg zc, ek]
      obtain ⟨i1, i2⟩ := qv_plc n9 pl9 fu d (its >>> ((32 : Int32).toInt64 &&& 63)) (k + 1) (upd f k.toInt.toNat its.toInt32) (by omega) (by omega) (by omega)
      rw [en] at i1
      have j1 := i2 k.toInt.toNat (by omega)
      rw [upd_same] at j1
      have hB : (0 : Int) < qB := by rw [qB_e]; decide
      refine ⟨?_, fun j hj => ?_⟩
      · rw [tv, j1, Int.natCast_add, Int.natCast_mul, i1, pl_lo, pl_shr, Int.pow_succ, Int.mul_comm ((qB : Int) ^ d) qB, ← qa_em _ _ _ hB (Int.pow_pos hB)]
        rw [qB_e]
        rfl
      · rw [i2 j (by omega)]
        exact upd_ne _ _ (by omega)
theorem pl_d32 {p : Int32} (h0 : 0 ≤ p.toInt) : (p / 32).toInt = p.toInt / 32 ∧ p - p / 32 * 32 = Int32.ofNat (p.toInt % 32).toNat := by
  have h1 := Int32.toInt_lt p
  have e32 : (32 : Int32).toInt = 32 := rfl
  have ed : (p / 32).toInt = p.toInt / 32 := by
    rw [Int32.toInt_div, e32, Int.tdiv_eq_ediv_of_nonneg h0, Int.bmod_eq_of_le (by omega) (by omega)]
  have es : Int32.size = 4294967296 := rfl
  refine ⟨ed, Int32.toInt_inj.mp ?_⟩
  rw [Int32.toInt_sub, Int32.toInt_mul, ed, e32, Int32.toInt_ofNat', Int.bmod_eq_of_le (n := p.toInt / 32 * 32) (by omega) (by omega), Int.bmod_eq_of_le (by omega) (by omega), Int.bmod_eq_of_le (by omega) (by omega)]
  omega
/-- a whole number, places high -/
theorem qv_pl (n9 : Int32) {pl9 : Int32} (h0 : 0 ≤ pl9.toInt) (h1 : pl9.toInt < 352) : (tv (r_X7_placed n9 pl9) 0 11 : Int) = (n9.toInt * 2 ^ pl9.toInt.toNat) % (qB : Int) ^ 11 := by
  obtain ⟨d1, d2⟩ := pl_d32 h0
  obtain ⟨a, ha⟩ : ∃ a : Nat, pl9.toInt / 32 = a := ⟨(pl9.toInt / 32).toNat, by omega⟩
  obtain ⟨r, hr⟩ : ∃ r : Nat, (pl9.toInt % 32).toNat = r := ⟨_, rfl⟩
  have hr2 : r < 32 := by omega
  have ha2 : a ≤ 10 := by omega
  have hp : pl9.toInt.toNat = 32 * a + r := by omega
  have hn1 := Int32.le_toInt n9
  have hn2 := Int32.toInt_lt n9
  have e3 : n9.toInt64.toInt = n9.toInt := Int32.toInt_toInt64 n9
  have e4 := pl_s3 n9.toInt64 hr2 (by omega) (by omega)
  obtain ⟨c, hc⟩ : ∃ c : Nat, 11 = a + c := ⟨11 - a, by omega⟩
  unfold r_X7_placed
  rw [d2, hr]
  obtain ⟨i1, i2⟩ := qv_plc n9 pl9 12 c (n9.toInt64 <<< ((Int32.ofNat r).toInt64 &&& 63)) (pl9 / 32) (fun _ => 0) (by omega) (by omega) (by omega)
  have en : (pl9 / 32).toInt.toNat = a := by omega
  rw [en, e4, e3] at i1
  have s1 := tv_split (lr_X7_placed_19 n9 pl9 12 (n9.toInt64 <<< ((Int32.ofNat r).toInt64 &&& 63)) (pl9 / 32) (fun _ => 0)) c a 0
  rw [tv_0 a 0 (fun j _ hj => i2 j (by omega)), Nat.zero_add, Nat.zero_add] at s1
  have hB : (0 : Int) < qB := by rw [qB_e]; decide
  have e32 : (qB : Int) ^ a = 2 ^ (32 * a) := by
    rw [Int.pow_mul, qB_e]
    rfl
  rw [hc, s1, Int.natCast_mul, i1, Int.natCast_pow, Int.pow_add, ← Int.mul_emod_mul_of_pos _ _ (Int.pow_pos hB), hp, Int.pow_add, ← e32]
  congr 1
  rw [Int.mul_left_comm]
/-- quarters -/
theorem qv_quart (q : Int32) : (tv (r_X7_quarterOf q) 0 11 : Int) = (q.toInt * 2 ^ 254) % (qB : Int) ^ 11 := by
  unfold r_X7_quarterOf
  exact qv_pl q (pl9 := 254) (by decide) (by decide)
theorem qv_qpos {q : Int32} (h : 0 ≤ q.toInt) : tv (r_X7_quarterOf q) 0 11 = q.toInt.toNat * 2 ^ 254 := by
  have h1 := qv_quart q
  have h2 := Int32.toInt_lt q
  have e : ((q.toInt.toNat * 2 ^ 254 : Nat) : Int) = q.toInt * 2 ^ 254 := by
    rw [Int.natCast_mul, Int.natCast_pow, Int.toNat_of_nonneg h]
    rfl
  have hlt : q.toInt.toNat * 2 ^ 254 < qB ^ 11 := by
    have h3 : q.toInt.toNat * 2 ^ 254 < 2 ^ 31 * 2 ^ 254 := Nat.mul_lt_mul_of_pos_right (by omega) (Nat.pow_pos (by decide))
    have h4 : (2 : Nat) ^ 31 * 2 ^ 254 ≤ qB ^ 11 := by rw [qB_e]; decide +kernel
    exact Nat.lt_of_lt_of_le h3 h4
  rw [← e, ← Int.natCast_pow, ← Int.natCast_emod, Nat.mod_eq_of_lt hlt] at h1
  exact Int.ofNat.inj h1
