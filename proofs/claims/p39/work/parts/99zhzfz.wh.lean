/-! the whole part -/
theorem sh_s : ∀ r : Nat, r < 64 → ((Int32.ofNat r).toInt64 &&& 63).toBitVec.smod 64 = BitVec.ofNat 64 r := by decide +kernel
theorem sh_r (x : Int64) {r : Nat} (hr : r < 64) : (x >>> ((Int32.ofNat r).toInt64 &&& 63)).toInt = x.toInt / ((2 ^ r : Nat) : Int) := by
  have es : (x >>> ((Int32.ofNat r).toInt64 &&& 63)).toBitVec = x.toBitVec.sshiftRight r := by
    rw [Int64.toBitVec_shiftRight, sh_s r hr, BitVec.sshiftRight_eq', BitVec.toNat_ofNat, Nat.mod_eq_of_lt (by omega)]
  show (x >>> ((Int32.ofNat r).toInt64 &&& 63)).toBitVec.toInt = _
  rw [es, BitVec.toInt_sshiftRight, Int.shiftRight_eq_div_pow]
  rfl
theorem sh_l (x : Int64) {r : Nat} (hr : r < 64) (b1 : x.toInt * ((2 ^ r : Nat) : Int) ≤ 9223372036854775807) (b2 : -9223372036854775808 ≤ x.toInt * ((2 ^ r : Nat) : Int)) : (x <<< ((Int32.ofNat r).toInt64 &&& 63)).toInt = x.toInt * ((2 ^ r : Nat) : Int) := by
  have es : (x <<< ((Int32.ofNat r).toInt64 &&& 63)).toBitVec = x.toBitVec <<< r := by
    rw [Int64.toBitVec_shiftLeft, sh_s r hr]
    apply BitVec.eq_of_toNat_eq
    rw [BitVec.shiftLeft_eq', BitVec.toNat_ofNat, Nat.mod_eq_of_lt (by omega)]
  have ex : x.toInt = x.toBitVec.toInt := rfl
  have ec := BitVec.toInt_eq_toNat_cond x.toBitVec
  show (x <<< ((Int32.ofNat r).toInt64 &&& 63)).toBitVec.toInt = _
  rw [es, BitVec.toInt_shiftLeft, Nat.shiftLeft_eq, Int.natCast_mul, ex]
  rw [← ex] at ec
  have e64 : (2 : Nat) ^ 64 = 18446744073709551616 := by decide
  rw [e64] at ec ⊢
  have hx := x.toBitVec.isLt
  rw [← ex]
  generalize ((2 ^ r : Nat) : Int) = R at b1 b2 ⊢
  split at ec
  · rw [← ec]
    exact Int.bmod_eq_of_le (by omega) (by omega)
  · have e2 : (x.toBitVec.toNat : Int) * R = x.toInt * R + ((18446744073709551616 : Nat) : Int) * R := by
      rw [← Int.add_mul]
      congr 1
      omega
    rw [e2, Int.add_mul_bmod_self_left]
    exact Int.bmod_eq_of_le (by omega) (by omega)
theorem sb_s {a b : Int32} (h1 : -100000 ≤ a.toInt) (h2 : a.toInt ≤ 100000) (h3 : -100000 ≤ b.toInt) (h4 : b.toInt ≤ 100000) : (a - b).toInt = a.toInt - b.toInt := by
  rw [Int32.toInt_sub]
  show (a.toInt - b.toInt).bmod _ = _
  rw [Int.bmod_eq_of_le (by omega) (by omega)]
theorem ng_6 {x : Int64} (h : 0 ≤ x.toInt) : (-x).toInt = -x.toInt := by
  have u := Int64.toInt_lt x
  rw [Int64.toInt_neg]
  exact Int.bmod_eq_of_le (by omega) (by omega)
theorem sb_6 {x : Int64} (h : -9223372036854775808 < x.toInt) : (x - 1).toInt = x.toInt - 1 := by
  have u := Int64.toInt_lt x
  have e1 : (1 : Int64).toInt = 1 := rfl
  rw [Int64.toInt_sub, e1]
  exact Int.bmod_eq_of_le (by omega) (by omega)
/-- a quotient rounded down, below 0 -/
theorem dv_n {M B : Int} (h0 : 0 ≤ M) (hB : 0 < B) : (M / B * B = M → (-M) / B = -(M / B)) ∧ (¬ M / B * B = M → (-M) / B = -(M / B) - 1) := by
  have h1 := Int.emod_add_mul_ediv M B
  have l0 := Int.emod_nonneg M (Int.ne_of_gt hB)
  have l1 := Int.emod_lt_of_pos M hB
  have hc := Int.mul_comm B (M / B)
  generalize M / B = q at h1 hc ⊢
  generalize M % B = r at h1 l0 l1
  refine ⟨fun e => ?_, fun e => ?_⟩
  · have : -M = (-q) * B := by rw [Int.neg_mul]; omega
    rw [this, Int.mul_ediv_cancel _ (Int.ne_of_gt hB)]
  · have : -M = (B - r) + B * (-q - 1) := by
      rw [Int.mul_sub, Int.mul_neg, Int.mul_one]
      omega
    rw [this, Int.add_mul_ediv_left _ _ (Int.ne_of_gt hB), Int.ediv_eq_zero_of_lt (by omega) (by omega)]
    omega
theorem p2_pos (n : Nat) : (0 : Int) < ((2 ^ n : Nat) : Int) := Int.ofNat_lt.mpr (Nat.pow_pos (by decide))
theorem p2_le {a b : Nat} (h : a ≤ b) : ((2 ^ a : Nat) : Int) ≤ ((2 ^ b : Nat) : Int) := Int.ofNat_le.mpr (Nat.pow_le_pow_right (by decide) h)
theorem p2_add (a b : Nat) : ((2 ^ (a + b) : Nat) : Int) = ((2 ^ a : Nat) : Int) * ((2 ^ b : Nat) : Int) := by rw [Nat.pow_add, Int.natCast_mul]
theorem p2_dv (W : Int) (a b : Nat) : W / ((2 ^ (a + b) : Nat) : Int) = W / ((2 ^ a : Nat) : Int) / ((2 ^ b : Nat) : Int) := by
  rw [p2_add, Int.ediv_ediv_of_nonneg (Int.le_of_lt (p2_pos a))]
theorem nn_32 {x : Int32} {n : Nat} (h : x.toInt = n) : x = Int32.ofNat n := by
  rw [← Int32.ofInt_toInt x, h]
  exact Int32.ofInt_eq_ofNat
/-- what the class rounds down -/
theorem rd_v {w : Int64} {k : Int32} {E M : Nat} (w0 : ¬ w = 0) (wU : ¬ w = -9223372036854775808) (hE : f_X1_exponentOf w = Int32.ofNat E) (hE2 : E ≤ 2047) (hM : (f_X1_mantissaOf w).toInt = M) (M1 : 4503599627370496 ≤ M) (M2 : M < 9007199254740992) (k1 : -1000 ≤ k.toInt) (k2 : k.toInt ≤ 1000) :
    (1075 - (E : Int) - k.toInt < 0 → (f_X1_roundedDown w k).toInt = if 0 ≤ w then 9007199254740992 else -9007199254740992) ∧ ∀ s : Nat, 1075 - (E : Int) - k.toInt = s → (f_X1_roundedDown w k).toInt = (if 0 ≤ w then (M : Int) else -(M : Int)) / ((2 ^ s : Nat) : Int) := by
  have e0 : (0 : Int32).toInt = 0 := rfl
  have e52 : (52 : Int32).toInt = 52 := rfl
  have eE : (Int32.ofNat E).toInt = E := nI_toInt (by omega)
  have e1075 : (1075 : Int32).toInt = 1075 := rfl
  have t1 : ((1075 : Int32) - Int32.ofNat E).toInt = 1075 - E := by
    rw [sb_s (by omega) (by omega) (by omega) (by omega)]
    omega
  have t2 : (((1075 : Int32) - Int32.ofNat E) - k).toInt = 1075 - E - k.toInt := by
    rw [sb_s (by omega) (by omega) (by omega) (by omega), t1]
  unfold f_X1_roundedDown
  rw [if_neg w0, if_neg wU, hE]
  generalize (((1075 : Int32) - Int32.ofNat E) - k) = s32 at t2 ⊢
  refine ⟨fun h => ?_, fun s hs => ?_⟩
  · rw [if_neg (show ¬ 0 ≤ s32 by rw [Int32.le_iff_toInt_le]; omega)]
    by_cases p : 0 ≤ w
    · rw [if_pos p, if_pos p]
      rfl
    · rw [if_neg p, if_neg p]
      rfl
  · obtain rfl := nn_32 (t2.trans hs)
    have ts : (Int32.ofNat s).toInt = s := t2.trans hs
    rw [if_pos (show 0 ≤ Int32.ofNat s by rw [Int32.le_iff_toInt_le]; omega)]
    by_cases c : s ≤ 52
    · have c2 : ¬ (52 : Int32) < Int32.ofNat s := by rw [Int32.lt_iff_toInt_lt]; omega
      rw [if_pos (show Int32.ofNat s ≤ 52 by rw [Int32.le_iff_toInt_le]; omega), if_neg c2]
      have hX := sh_r (f_X1_mantissaOf w) (r := s) (by omega)
      rw [hM] at hX
      generalize (f_X1_mantissaOf w) >>> ((Int32.ofNat s).toInt64 &&& 63) = X at hX ⊢
      have pB := p2_pos s
      have h1 := Int.emod_add_mul_ediv (M : Int) ((2 ^ s : Nat) : Int)
      have l0 := Int.emod_nonneg (M : Int) (Int.ne_of_gt pB)
      have hc := Int.mul_comm ((2 ^ s : Nat) : Int) ((M : Int) / ((2 ^ s : Nat) : Int))
      have q0 : 0 ≤ (M : Int) / ((2 ^ s : Nat) : Int) := Int.ediv_nonneg (by omega) (Int.le_of_lt pB)
      have q1 : 0 ≤ (M : Int) / ((2 ^ s : Nat) : Int) * ((2 ^ s : Nat) : Int) := Int.mul_nonneg q0 (Int.le_of_lt pB)
      have dn := dv_n (M := (M : Int)) (by omega) pB
      have q2 : (M : Int) / ((2 ^ s : Nat) : Int) ≤ M := Int.ediv_le_self _ (by omega)
      have hY := sh_l X (r := s) (by omega) (by rw [hX]; omega) (by rw [hX]; omega)
      rw [hX] at hY
      by_cases eq : X <<< ((Int32.ofNat s).toInt64 &&& 63) = f_X1_mantissaOf w
      · rw [if_pos eq]
        have ed : (M : Int) / ((2 ^ s : Nat) : Int) * ((2 ^ s : Nat) : Int) = M := by rw [← hY, eq, hM]
        by_cases p : 0 ≤ w
        · rw [if_pos p, if_pos p]
          exact hX
        · rw [if_neg p, if_neg p, ng_6 (by rw [hX]; exact q0), hX, dn.1 ed]
      · rw [if_neg eq]
        have ed : ¬ (M : Int) / ((2 ^ s : Nat) : Int) * ((2 ^ s : Nat) : Int) = M := fun z => eq (Int64.toInt_inj.mp (by rw [hY, z, hM]))
        by_cases p : 0 ≤ w
        · rw [if_pos p, if_pos p]
          exact hX
        · have hn := ng_6 (x := X) (by rw [hX]; exact q0)
          rw [if_neg p, if_neg p, sb_6 (by rw [hn, hX]; omega), hn, hX, dn.2 ed]
    · have c2 : (52 : Int32) < Int32.ofNat s := by rw [Int32.lt_iff_toInt_lt]; omega
      rw [if_neg (show ¬ Int32.ofNat s ≤ 52 by rw [Int32.le_iff_toInt_le]; omega), if_pos c2]
      have pw := p2_le (show 53 ≤ s by omega)
      have e53 : ((2 ^ 53 : Nat) : Int) = 9007199254740992 := by decide
      rw [e53] at pw
      have z0 : (M : Int) / ((2 ^ s : Nat) : Int) = 0 := Int.ediv_eq_zero_of_lt (by omega) (by omega)
      by_cases p : 0 ≤ w
      · rw [if_pos p, if_pos p, z0]
        rfl
      · have dn := (dv_n (M := (M : Int)) (by omega) (p2_pos s)).2 (by rw [z0]; omega)
        rw [if_neg p, if_neg p, dn, z0]
        rfl
/-- the number's own digits against its true value -/
def whE (w : Int64) : Nat := (f_X1_exponentOf w).toNatClampNeg
def whM (w : Int64) : Nat := (f_X1_mantissaOf w).toInt.toNat
def whC (w : Int64) (E M : Nat) (m : Int) : Bool := !(w == 0) && (!(w == -9223372036854775808) && (f_X1_exponentOf w == Int32.ofNat E && (Nat.ble 830 E && (Nat.ble E 1300 && (decide ((f_X1_mantissaOf w).toInt = (M : Int)) && (Nat.ble 4503599627370496 M && (Nat.blt M 9007199254740992 && (decide (m / ((2 ^ (max 166 (E - 819 + 21)) : Nat) : Int) = (if 0 ≤ w then (M : Int) else -(M : Int)) / ((2 ^ (max 166 (E - 819 + 21) - (E - 819)) : Nat) : Int)) && (if 0 ≤ w then decide (((2 ^ (E - 819 + 51) : Nat) : Int) ≤ m) else decide (m < -((2 ^ (E - 819 + 51) : Nat) : Int)))))))))))
def whB (kd q u : Int32) : Bool := kd == 1 || (kd == 5 || (kd == 6 || (if kd = 0 ∧ q = 0 then decide (tS kd q = 0) && (f_X1_digitsOf (enc kd q u) == 0 || f_X1_digitsOf (enc kd q u) == -9223372036854775808) else whC (f_X1_digitsOf (enc kd q u)) (whE (f_X1_digitsOf (enc kd q u))) (whM (f_X1_digitsOf (enc kd q u))) (tS kd q))))
theorem wh_0 : vall whB = true := by decide +kernel
theorem wh_c {w : Int64} {E M : Nat} {m : Int} {k : Int32} {pl : Nat} (h : whC w E M m = true) (k1 : -62 ≤ k.toInt) (k2 : k.toInt ≤ 90) (hpl : (pl : Int) = 256 - k.toInt) : ((-2147483648 ≤ (f_X1_roundedDown w k).toInt ∧ (f_X1_roundedDown w k).toInt ≤ 2147483647) ↔ (-2147483648 ≤ m / ((2 ^ pl : Nat) : Int) ∧ m / ((2 ^ pl : Nat) : Int) ≤ 2147483647)) ∧ ((-2147483648 ≤ m / ((2 ^ pl : Nat) : Int) ∧ m / ((2 ^ pl : Nat) : Int) ≤ 2147483647) → (f_X1_roundedDown w k).toInt = m / ((2 ^ pl : Nat) : Int)) := by
  unfold whC at h
  simp only [Bool.and_eq_true, Bool.not_eq_true', beq_eq_false_iff_ne, beq_iff_eq, decide_eq_true_eq, Nat.ble_eq, Nat.blt_eq] at h
  obtain ⟨w0, wU, hE, E1, E2, hM, M1, M2, hc, hb⟩ := h
  obtain ⟨r1, r2⟩ := rd_v (k := k) w0 wU hE (by omega) hM M1 M2 (by omega) (by omega)
  generalize (f_X1_roundedDown w k).toInt = X at r1 r2 ⊢
  have e31 : ((2 ^ 31 : Nat) : Int) = 2147483648 := by decide
  -- far too great
  have far : pl ≤ E - 819 + 20 → ¬ (-2147483648 ≤ m / ((2 ^ pl : Nat) : Int) ∧ m / ((2 ^ pl : Nat) : Int) ≤ 2147483647) := fun hp => by
    have pp := p2_pos pl
    have a1 := p2_le (show 31 + pl ≤ E - 819 + 51 by omega)
    rw [p2_add, e31] at a1
    by_cases p : 0 ≤ w
    · rw [if_pos p, decide_eq_true_eq] at hb
      have := Int.le_ediv_of_mul_le (a := 2147483648) pp (by omega : 2147483648 * ((2 ^ pl : Nat) : Int) ≤ m)
      omega
    · rw [if_neg p, decide_eq_true_eq] at hb
      have := Int.ediv_lt_of_lt_mul (a := m) (b := -2147483648) pp (by rw [Int.neg_mul]; omega)
      omega
  by_cases c0 : pl < E - 819
  · have hx := r1 (by omega)
    have nf := far (by omega)
    refine ⟨⟨fun z => ?_, fun z => absurd z nf⟩, fun z => absurd z nf⟩
    exfalso
    rw [hx] at z
    split at z <;> omega
  · have hx := r2 (pl - (E - 819)) (by omega)
    by_cases c1 : pl ≤ E - 819 + 20
    · have nf := far c1
      refine ⟨⟨fun z => ?_, fun z => absurd z nf⟩, fun z => absurd z nf⟩
      exfalso
      rw [hx] at z
      have pp := p2_pos (pl - (E - 819))
      have a1 := p2_le (show pl - (E - 819) ≤ 20 by omega)
      have e20 : ((2 ^ 20 : Nat) : Int) = 1048576 := by decide
      rw [e20] at a1
      generalize ((2 ^ (pl - (E - 819)) : Nat) : Int) = B at z pp a1
      by_cases p : 0 ≤ w
      · rw [if_pos p] at z
        have := Int.le_ediv_of_mul_le (a := 2147483648) (b := (M : Int)) pp (by omega)
        omega
      · rw [if_neg p] at z
        have := Int.ediv_lt_of_lt_mul (a := -(M : Int)) (b := -2147483648) pp (by omega)
        omega
    · have hm : max 166 (E - 819 + 21) ≤ pl := by omega
      have hm2 : E - 819 ≤ max 166 (E - 819 + 21) := by omega
      generalize max 166 (E - 819 + 21) = p0 at hm hm2 hc
      have x1 : m / ((2 ^ pl : Nat) : Int) = m / ((2 ^ p0 : Nat) : Int) / ((2 ^ (pl - p0) : Nat) : Int) := by
        rw [← p2_dv]
        congr 3
        omega
      have x2 : X = m / ((2 ^ pl : Nat) : Int) := by
        rw [x1, hc, ← p2_dv, hx, show pl - (E - 819) = (p0 - (E - 819)) + (pl - p0) by omega]
      rw [x2]
      exact ⟨Iff.rfl, fun _ => rfl⟩
theorem wh_v {kd q u k : Int32} {pl : Nat} (h : vq kd q u) (h1 : ¬ kd = 1) (h5 : ¬ kd = 5) (h6 : ¬ kd = 6) (k1 : -62 ≤ k.toInt) (k2 : k.toInt ≤ 90) (hpl : (pl : Int) = 256 - k.toInt) : ((-2147483648 ≤ (f_X1_roundedDown (f_X1_digitsOf (enc kd q u)) k).toInt ∧ (f_X1_roundedDown (f_X1_digitsOf (enc kd q u)) k).toInt ≤ 2147483647) ↔ (-2147483648 ≤ tS kd q / ((2 ^ pl : Nat) : Int) ∧ tS kd q / ((2 ^ pl : Nat) : Int) ≤ 2147483647)) ∧ ((-2147483648 ≤ tS kd q / ((2 ^ pl : Nat) : Int) ∧ tS kd q / ((2 ^ pl : Nat) : Int) ≤ 2147483647) → (f_X1_roundedDown (f_X1_digitsOf (enc kd q u)) k).toInt = tS kd q / ((2 ^ pl : Nat) : Int)) := by
  have hb := vall_e wh_0 h
  unfold whB at hb
  rw [Bool.or_eq_true] at hb
  replace hb := hb.resolve_left (fun z => h1 (eq_of_beq z))
  rw [Bool.or_eq_true] at hb
  replace hb := hb.resolve_left (fun z => h5 (eq_of_beq z))
  rw [Bool.or_eq_true] at hb
  replace hb := hb.resolve_left (fun z => h6 (eq_of_beq z))
  by_cases z : kd = 0 ∧ q = 0
  · rw [if_pos z, Bool.and_eq_true, Bool.or_eq_true] at hb
    have t0 := of_decide_eq_true hb.1
    have x0 : f_X1_roundedDown (f_X1_digitsOf (enc kd q u)) k = 0 := by
      unfold f_X1_roundedDown
      rcases hb.2 with e | e
      · rw [eq_of_beq e, if_pos rfl]
      · rw [eq_of_beq e, if_neg (by decide), if_pos rfl]
    have e0 : (0 : Int64).toInt = 0 := rfl
    rw [x0, t0, Int.zero_ediv, e0]
    exact ⟨Iff.rfl, fun _ => rfl⟩
  · rw [if_neg z] at hb
    exact wh_c hb k1 k2 hpl
theorem i6_b {x : Int64} : (¬ x < -2147483648 ∧ ¬ 2147483647 < x) ↔ (-2147483648 ≤ x.toInt ∧ x.toInt ≤ 2147483647) := by
  have e1 : (-2147483648 : Int64).toInt = -2147483648 := rfl
  have e2 : (2147483647 : Int64).toInt = 2147483647 := rfl
  rw [Int64.lt_iff_toInt_lt, Int64.lt_iff_toInt_lt, e1, e2]
  omega
theorem t32_e {x : Int64} {y : Int} (h : x.toInt = y) : x.toInt32 = Int32.ofInt y := by
  apply Int32.toInt_inj.mp
  rw [Int64.toInt_toInt32, Int32.toInt_ofInt, h]
theorem pl_k {k : Int32} (h : ¬ k < -62 ∧ ¬ 90 < k) : ∃ pl : Nat, (pl : Int) = 256 - k.toInt ∧ pl ≤ 320 ∧ (256 : Int32) - k = Int32.ofNat pl ∧ -62 ≤ k.toInt ∧ k.toInt ≤ 90 := by
  obtain ⟨a, b⟩ := h
  have e1 : (-62 : Int32).toInt = -62 := rfl
  have e2 : (90 : Int32).toInt = 90 := rfl
  have e3 : (256 : Int32).toInt = 256 := rfl
  rw [Int32.lt_iff_toInt_lt] at a b
  refine ⟨(256 - k.toInt).toNat, by omega, by omega, nn_32 ?_, by omega, by omega⟩
  rw [sb_s (by omega) (by omega) (by omega) (by omega)]
  omega
theorem hw_v {kd q u : Int32} (h : vq kd q u) : (¬ f_X2_hasWhole (enc kd q u) = 0 → ¬ kd = 1 ∧ ¬ kd = 5 ∧ ¬ kd = 6) ∧ (f_X2_hasWhole (enc kd q u) = 0 → kd = 1 ∨ kd = 5 ∨ kd = 6) := by
  unfold f_X2_hasWhole
  rw [(enc_v h).1]
  by_cases h1 : kd = 1
  · rw [if_pos h1]
    exact ⟨fun z => absurd rfl z, fun _ => Or.inl h1⟩
  · rw [if_neg h1]
    by_cases h5 : kd = 5
    · rw [if_pos h5]
      exact ⟨fun z => absurd rfl z, fun _ => Or.inr (Or.inl h5)⟩
    · rw [if_neg h5]
      by_cases h6 : kd = 6
      · rw [if_pos h6]
        exact ⟨fun z => absurd rfl z, fun _ => Or.inr (Or.inr h6)⟩
      · rw [if_neg h6]
        exact ⟨fun _ => ⟨h1, h5, h6⟩, fun z => absurd z (by decide)⟩
theorem ut_v {c : Int32} {T : sM} (h : vq (T.1 c.toNatClampNeg) (T.2.1 c.toNatClampNeg) (T.2.2.1 c.toNatClampNeg)) : (¬ T.1 c.toNatClampNeg = 1 ∧ ¬ T.1 c.toNatClampNeg = 5 ∧ ¬ T.1 c.toNatClampNeg = 6 → r_X7_isUntold c T = 0) ∧ (T.1 c.toNatClampNeg = 1 ∨ T.1 c.toNatClampNeg = 5 ∨ T.1 c.toNatClampNeg = 6 → ¬ r_X7_isUntold c T = 0) := by
  unfold r_X7_isUntold
  refine ⟨fun ⟨n1, n5, n6⟩ => ?_, fun z => ?_⟩
  · rw [if_neg n1]
    rcases h with ⟨e, _⟩ | ⟨e, _⟩ | ⟨e, _⟩ | ⟨e, _⟩ | ⟨e, _⟩ | ⟨e, _⟩ | ⟨e, _⟩
    · rw [e, if_pos (by decide)]
    · exact absurd e n1
    · rw [e, if_pos (by decide)]
    · rw [e, if_pos (by decide)]
    · rw [e, if_pos (by decide)]
    · exact absurd e n5
    · exact absurd e n6
  · rcases z with e | e | e
    · rw [e, if_pos rfl]
      decide
    · rw [e, if_neg (by decide), if_neg (by decide)]
      decide
    · rw [e, if_neg (by decide), if_neg (by decide)]
      decide
