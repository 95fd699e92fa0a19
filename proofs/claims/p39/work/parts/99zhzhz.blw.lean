/-! whole numbers scaled, against a series -/
theorem pk_a {ex m : Int64} {E M : Nat} (hE : ex.toInt = E) (hE2 : E < 2047) (hM : m.toInt = M) (M1 : 4503599627370496 ≤ M) (M2 : M < 9007199254740992) : ((ex <<< ((52 : Int32).toInt64 &&& 63)) ||| (m &&& 4503599627370495)).toBitVec.toNat = E * 4503599627370496 + (M - 4503599627370496) := by
  have nat : ∀ {x : Int64} {n : Nat}, x.toInt = n → x.toBitVec.toNat = n := fun {x n} h => by
    have h2 : x.toInt = x.toBitVec.toInt := rfl
    have h3 := BitVec.toInt_eq_toNat_cond x.toBitVec
    have h4 := x.toBitVec.isLt
    split at h3 <;> omega
  have es : (ex <<< ((52 : Int32).toInt64 &&& 63)).toBitVec = ex.toBitVec <<< 52 := by
    rw [Int64.toBitVec_shiftLeft]
    rfl
  have ew : (m &&& 4503599627370495).toBitVec.toNat = M - 4503599627370496 := by
    show (m.toBitVec &&& 4503599627370495#64).toNat = _
    rw [BitVec.toNat_and, show (4503599627370495#64 : BitVec 64).toNat = 2 ^ 52 - 1 from rfl, Nat.and_two_pow_sub_one_eq_mod, nat hM]
    have e52 : (2 : Nat) ^ 52 = 4503599627370496 := by decide
    rw [e52]
    omega
  show ((ex <<< ((52 : Int32).toInt64 &&& 63)).toBitVec ||| (m &&& 4503599627370495).toBitVec).toNat = _
  rw [BitVec.toNat_or, ew, es, BitVec.toNat_shiftLeft, Nat.shiftLeft_eq, nat hE, Nat.mod_eq_of_lt (by omega)]
  have h5 := Nat.two_pow_add_eq_or_of_lt (i := 52) (b := M - 4503599627370496) (by omega) E
  have e52 : (2 : Nat) ^ 52 = 4503599627370496 := by decide
  rw [e52] at h5 ⊢
  rw [Nat.mul_comm] at h5
  exact h5.symm
def mag (E M : Nat) : Int := (E : Int) * 4503599627370496 + (M : Int) - 4503599627370496
theorem pk_p {ex m : Int64} {E M : Nat} (hE : ex.toInt = E) (hE2 : E < 2047) (hM : m.toInt = M) (M1 : 4503599627370496 ≤ M) (M2 : M < 9007199254740992) : kX ((ex <<< ((52 : Int32).toInt64 &&& 63)) ||| (m &&& 4503599627370495)) = mag E M := by
  have h := pk_a hE hE2 hM M1 M2
  generalize ((ex <<< ((52 : Int32).toInt64 &&& 63)) ||| (m &&& 4503599627370495)) = x at h
  have e : x.toInt = mag E M := by
    show x.toBitVec.toInt = _
    rw [BitVec.toInt_eq_toNat_of_lt (by omega), h]
    unfold mag
    omega
  unfold kX
  rw [e, if_pos (by unfold mag; omega)]
theorem pk_n {ex m : Int64} {E M : Nat} (hE : ex.toInt = E) (hE2 : E < 2047) (hM : m.toInt = M) (M1 : 4503599627370496 ≤ M) (M2 : M < 9007199254740992) : kX (((ex <<< ((52 : Int32).toInt64 &&& 63)) ||| (m &&& 4503599627370495)) ||| (-9223372036854775808)) = -(mag E M) - 1 := by
  have h := pk_a hE hE2 hM M1 M2
  generalize ((ex <<< ((52 : Int32).toInt64 &&& 63)) ||| (m &&& 4503599627370495)) = x at h
  have e : (x ||| (-9223372036854775808)).toBitVec.toNat = E * 4503599627370496 + (M - 4503599627370496) + 9223372036854775808 := by
    show (x.toBitVec ||| 9223372036854775808#64).toNat = _
    rw [BitVec.toNat_or, h]
    have h5 := Nat.two_pow_add_eq_or_of_lt (i := 63) (b := E * 4503599627370496 + (M - 4503599627370496)) (by omega) 1
    have e63 : (2 : Nat) ^ 63 * 1 = 9223372036854775808 := by decide
    rw [e63] at h5
    have e64 : (9223372036854775808#64 : BitVec 64).toNat = 9223372036854775808 := rfl
    rw [e64, Nat.or_comm, ← h5]
    omega
  have e2 : (x ||| (-9223372036854775808)).toInt = mag E M - 9223372036854775808 := by
    have h2 : (x ||| (-9223372036854775808)).toInt = (x ||| (-9223372036854775808)).toBitVec.toInt := rfl
    have h3 := BitVec.toInt_eq_toNat_cond (x ||| (-9223372036854775808)).toBitVec
    unfold mag
    split at h3 <;> omega
  unfold kX
  rw [e2, if_neg (by unfold mag; omega)]
  omega
theorem sc_l {n : Int64} {k : Int32} : ∀ (fu i : Nat) (m ex : Int64) (M E : Nat) (i32 : Int32), i32.toInt = i → i ≤ 52 → 52 - i < fu → m.toInt = M → 2 ^ i ≤ M → M < 9007199254740992 → ex.toInt = E → 100 + 52 ≤ E + i → E < 2047 → ∃ t : Nat, t ≤ E ∧ 52 + 100 ≤ E - t + 52 ∧ 4503599627370496 ≤ M * 2 ^ t ∧ M * 2 ^ t < 9007199254740992 ∧ kX (lf_X1_scaled_32 n k fu m ex i32) = if 0 ≤ n then mag (E - t) (M * 2 ^ t) else -(mag (E - t) (M * 2 ^ t)) - 1
  | 0, _, _, _, _, _, _, _, _, h, _, _, _, _, _, _ => absurd h (Nat.not_lt_zero _)
  | fu + 1, i, m, ex, M, E, i32, hi, h52, hf, hm, h2, h3, he, h4, h5 => by
    have e52 : (52 : Int32).toInt = 52 := rfl
    have eL : (4503599627370496 : Int64).toInt = 4503599627370496 := rfl
    rw [lf_X1_scaled_32]
    have fin : 4503599627370496 ≤ M → ∃ t : Nat, t ≤ E ∧ 52 + 100 ≤ E - t + 52 ∧ 4503599627370496 ≤ M * 2 ^ t ∧ M * 2 ^ t < 9007199254740992 ∧ kX (if 0 ≤ n then (ex <<< ((52 : Int32).toInt64 &&& 63)) ||| (m &&& 4503599627370495) else ((ex <<< ((52 : Int32).toInt64 &&& 63)) ||| (m &&& 4503599627370495)) ||| (-9223372036854775808)) = if 0 ≤ n then mag (E - t) (M * 2 ^ t) else -(mag (E - t) (M * 2 ^ t)) - 1 := fun hM => by
      refine ⟨0, Nat.zero_le _, by omega, ?_, ?_, ?_⟩
      · rw [Nat.pow_zero, Nat.mul_one]; exact hM
      · rw [Nat.pow_zero, Nat.mul_one]; exact h3
      · rw [Nat.pow_zero, Nat.mul_one, Nat.sub_zero]
        by_cases p : 0 ≤ n
        · rw [if_pos p, if_pos p]
          exact pk_p he h5 hm hM h3
        · rw [if_neg p, if_neg p]
          exact pk_n he h5 hm hM h3
    by_cases c : 52 ≤ i32
    · rw [if_pos c]
      rw [Int32.le_iff_toInt_le] at c
      have ei : i = 52 := by omega
      subst ei
      exact fin (by have : (2 : Nat) ^ 52 = 4503599627370496 := by decide
                    omega)
    · rw [if_neg c]
      by_cases d : 4503599627370496 ≤ m
      · rw [if_pos d]
        rw [Int64.le_iff_toInt_le, eL] at d
        exact fin (by omega)
      · rw [if_neg d]
        rw [Int64.le_iff_toInt_le, eL] at d
        rw [Int32.le_iff_toInt_le] at c
        have e2 : ((2 ^ 1 : Nat) : Int) = 2 := by decide
        have hs := sh_l m (r := 1) (by decide) (by rw [e2]; omega) (by rw [e2]; omega)
        have hs2 : (m <<< ((1 : Int32).toInt64 &&& 63)).toInt = ((2 * M : Nat) : Int) := by
          have : (m <<< ((1 : Int32).toInt64 &&& 63)).toInt = m.toInt * ((2 ^ 1 : Nat) : Int) := hs
          rw [this, e2, hm]
          omega
        have hx : (ex - 1).toInt = ((E - 1 : Nat) : Int) := by
          rw [sb_6 (by omega), he]
          omega
        have hi2 : (i32 + 1).toInt = ((i + 1 : Nat) : Int) := by
          rw [qm_inc (i := i32) (N := 52) (by rw [Int32.le_iff_toInt_le]; omega), hi]
          omega
        obtain ⟨t, t1, t2, t3, t4, t5⟩ := sc_l fu (i + 1) (m <<< ((1 : Int32).toInt64 &&& 63)) (ex - 1) (2 * M) (E - 1) (i32 + 1) hi2 (by omega) (by omega) hs2 (by rw [Nat.pow_succ]; omega) (by omega) hx (by omega) (by omega)
        have ep : 2 * M * 2 ^ t = M * 2 ^ (t + 1) := by
          rw [Nat.pow_succ, Nat.mul_comm 2 M, Nat.mul_assoc, Nat.mul_comm 2 (2 ^ t)]
        rw [ep] at t3 t4 t5
        have eE : E - 1 - t = E - (t + 1) := by omega
        rw [eE] at t5
        exact ⟨t + 1, by omega, by omega, t3, t4, t5⟩
/-- the class's number of n by 2 to the power of -k -/
theorem sc_v {n k : Int32} {pl : Nat} (hn : ¬ n = 0) (k1 : -62 ≤ k.toInt) (k2 : k.toInt ≤ 90) (hpl : (pl : Int) = 256 - k.toInt) : ∃ E M : Nat, 819 ≤ E ∧ 4503599627370496 ≤ M ∧ M < 9007199254740992 ∧ (M : Int) * ((2 ^ (E - 819) : Nat) : Int) = (if 0 ≤ n.toInt then n.toInt else -n.toInt) * ((2 ^ pl : Nat) : Int) ∧ kX (f_X1_scaled n.toInt64 k) = if 0 ≤ n.toInt then mag E M else -(mag E M) - 1 := by
  have l1 := Int32.le_toInt n
  have l2 := Int32.toInt_lt n
  have eN : n.toInt64.toInt = n.toInt := Int32.toInt_toInt64 n
  have n0 : ¬ n.toInt = 0 := fun z => hn (Int32.toInt_inj.mp z)
  have e0 : (0 : Int64).toInt = 0 := rfl
  have e1075 : (1075 : Int32).toInt = 1075 := rfl
  have z0 : (0 : Int32).toInt = ((0 : Nat) : Int) := rfl
  have ek : ((1075 : Int32) - k).toInt64.toInt = ((1075 - k.toInt).toNat : Int) := by
    rw [Int32.toInt_toInt64, sb_s (by omega) (by omega) (by omega) (by omega)]
    omega
  have N0 : ¬ n.toInt64 = 0 := fun z => n0 (by rw [← eN, z]; rfl)
  unfold f_X1_scaled
  rw [if_neg N0]
  have fin : ∀ (a t : Nat) (v : Int), (a : Int) = v → t ≤ (1075 - k.toInt).toNat → 52 + 100 ≤ (1075 - k.toInt).toNat - t + 52 → t ≤ 52 → ((a * 2 ^ t : Nat) : Int) * ((2 ^ ((1075 - k.toInt).toNat - t - 819) : Nat) : Int) = v * ((2 ^ pl : Nat) : Int) := fun a t v ha h1 h2 h3 => by
    rw [Int.natCast_mul, Int.mul_assoc, ← p2_add, ha, show t + ((1075 - k.toInt).toNat - t - 819) = pl by omega]
  have tle : ∀ (a t : Nat), 1 ≤ a → a * 2 ^ t < 9007199254740992 → t ≤ 52 := fun a t ha ht => by
    by_cases c : t ≤ 52
    · exact c
    · have : (2 : Nat) ^ 53 ≤ 2 ^ t := Nat.pow_le_pow_right (by decide) (by omega)
      have e53 : (2 : Nat) ^ 53 = 9007199254740992 := by decide
      have := Nat.mul_le_mul ha this
      omega
  by_cases p : 0 ≤ n.toInt
  · have p2 : 0 ≤ n.toInt64 := by rw [Int64.le_iff_toInt_le, eN, e0]; exact p
    rw [if_pos p2, if_pos p]
    obtain ⟨t, t1, t2, t3, t4, t5⟩ := sc_l (n := n.toInt64) (k := k) 53 0 n.toInt64 ((1075 - k).toInt64) n.toInt.toNat (1075 - k.toInt).toNat 0 z0 (by decide) (by decide) (by rw [eN]; omega) (by rw [Nat.pow_zero]; omega) (by omega) ek (by omega) (by omega)
    rw [if_pos p2] at t5
    have t6 := tle _ t (by omega) t4
    exact ⟨_, _, by omega, t3, t4, fin _ t _ (by omega) t1 t2 t6, t5.trans (if_pos p).symm⟩
  · have p2 : ¬ 0 ≤ n.toInt64 := by rw [Int64.le_iff_toInt_le, eN, e0]; exact p
    rw [if_neg p2, if_neg p]
    have en : (-n.toInt64).toInt = ((-n.toInt).toNat : Int) := by
      rw [Int64.toInt_neg, eN, Int.bmod_eq_of_le (by omega) (by omega)]
      omega
    obtain ⟨t, t1, t2, t3, t4, t5⟩ := sc_l (n := n.toInt64) (k := k) 53 0 (-n.toInt64) ((1075 - k).toInt64) (-n.toInt).toNat (1075 - k.toInt).toNat 0 z0 (by decide) (by decide) en (by rw [Nat.pow_zero]; omega) (by omega) ek (by omega) (by omega)
    rw [if_neg p2] at t5
    have t6 := tle _ t (by omega) t4
    exact ⟨_, _, by omega, t3, t4, fin _ t _ (by omega) t1 t2 t6, t5.trans (if_neg p).symm⟩
/-- keys are ordered as what they stand for -/
theorem mg_0 {M1 M2 P Q : Int} (p1 : 0 < P) (a1 : P * 2 ≤ Q) (b1 : M1 < 9007199254740992) (b2 : 4503599627370496 ≤ M2) : M1 * P < M2 * Q := by
  have c1 := Int.mul_lt_mul_of_pos_right b1 p1
  have c2 := Int.mul_le_mul_of_nonneg_right b2 (show 0 ≤ Q by omega)
  generalize M1 * P = x at c1 ⊢
  generalize M2 * Q = y at c2 ⊢
  omega
theorem mg_l {E1 M1 E2 M2 : Nat} (h : E1 < E2) (h1 : 819 ≤ E1) (b1 : M1 < 9007199254740992) (b2 : 4503599627370496 ≤ M2) : (M1 : Int) * ((2 ^ (E1 - 819) : Nat) : Int) < (M2 : Int) * ((2 ^ (E2 - 819) : Nat) : Int) := by
  have a1 := p2_le (show E1 - 819 + 1 ≤ E2 - 819 by omega)
  have e2 : ((2 ^ 1 : Nat) : Int) = 2 := by decide
  rw [p2_add, e2] at a1
  exact mg_0 (p2_pos (E1 - 819)) a1 (by omega) (by omega)
theorem ax_1 {a b m x : Int} (ha : 0 < a) (hb : 0 < b) (hm : 0 ≤ m) (hx : x < 0) : a < -b - 1 ↔ m < x := ⟨fun z => absurd z (by omega), fun z => absurd z (by omega)⟩
theorem ax_2 {a b m x : Int} (ha : 0 < a) (hb : 0 < b) (hm : m < 0) (hx : 0 < x) : -a - 1 < b ↔ m < x := ⟨fun _ => by omega, fun _ => by omega⟩
theorem ax_3 {a b u v x m : Int} (h2 : b < a ↔ u < v) (hu : u = -x) (hr : -v < x ↔ m < x) : -a - 1 < -b - 1 ↔ m < x := by
  constructor
  · intro z
    have := h2.mp (by omega)
    exact hr.mp (by omega)
  · intro z
    have := hr.mpr z
    have := h2.mpr (by omega)
    omega
theorem ax_0 {b x : Int} (hb : 0 < b) (hx : x < 0) : 0 < -b - 1 ↔ 0 < x := ⟨fun z => absurd z (by omega), fun z => absurd z (by omega)⟩
theorem ax_4 {b x : Int} (hb : 0 < b) (hx : 0 < x) : ¬ -1 < b ↔ x ≤ 0 := ⟨fun z => absurd (show -1 < b by omega) z, fun z => absurd z (by omega)⟩
theorem ax_5 {b x : Int} (hb : 0 < b) (hx : x < 0) : ¬ -1 < -b - 1 ↔ x ≤ 0 := ⟨fun _ => by omega, fun _ => by omega⟩
theorem ax_6 {P m : Int} (hp : 0 < P) (h : m < -P) : m < 0 := by omega
theorem ax_7 {n R : Int} (hR : 0 < R) (hn : n < 0) : n * R < 0 := by
  have := Int.mul_pos (show 0 < -n by omega) hR
  rw [Int.neg_mul] at this
  generalize n * R = y at this ⊢
  omega
theorem ax_8 {n : Int} (h0 : ¬ n = 0) : (0 ≤ n → 0 < n) ∧ (¬ 0 ≤ n → n < 0) := ⟨fun _ => by omega, fun _ => by omega⟩
theorem mg_p {E M : Nat} (h1 : 819 ≤ E) (a1 : 4503599627370496 ≤ M) : 0 < mag E M := by
  unfold mag
  omega
theorem mg_c {E1 M1 E2 M2 : Nat} (h1 : 819 ≤ E1) (h2 : 819 ≤ E2) (a1 : 4503599627370496 ≤ M1) (b1 : M1 < 9007199254740992) (a2 : 4503599627370496 ≤ M2) (b2 : M2 < 9007199254740992) : mag E1 M1 < mag E2 M2 ↔ (M1 : Int) * ((2 ^ (E1 - 819) : Nat) : Int) < (M2 : Int) * ((2 ^ (E2 - 819) : Nat) : Int) := by
  unfold mag
  rcases Nat.lt_trichotomy E1 E2 with h | h | h
  · have := mg_l h h1 b1 a2
    exact ⟨fun _ => this, fun _ => by omega⟩
  · subst h
    have p1 := p2_pos (E1 - 819)
    generalize ((2 ^ (E1 - 819) : Nat) : Int) = P at p1 ⊢
    constructor
    · intro z
      exact Int.mul_lt_mul_of_pos_right (by omega) p1
    · intro z
      have := Int.lt_of_mul_lt_mul_right z (Int.le_of_lt p1)
      omega
  · have := mg_l h h2 b2 a1
    exact ⟨fun z => absurd z (by omega), fun z => absurd z (by omega)⟩
/-- digits of 53 against whole ones of 31: the true number stands on the same side -/
theorem rnd {D n m : Int} {p pl : Nat} (hp : 1 ≤ p) (hD : D ≤ -4503599627370496 ∨ 4503599627370496 ≤ D) (hn1 : -2147483648 ≤ n) (hn2 : n ≤ 2147483648) (h : m = D * ((2 ^ p : Nat) : Int) ∨ (¬ D % 2097152 = 0 ∧ -((2 ^ (p - 1) : Nat) : Int) ≤ m - D * ((2 ^ p : Nat) : Int) ∧ m - D * ((2 ^ p : Nat) : Int) ≤ ((2 ^ (p - 1) : Nat) : Int))) : D * ((2 ^ p : Nat) : Int) < n * ((2 ^ pl : Nat) : Int) ↔ m < n * ((2 ^ pl : Nat) : Int) := by
  rcases h with h | ⟨h1, h2, h3⟩
  · rw [h]
  · have pH := p2_pos (p - 1)
    have eP : ((2 ^ p : Nat) : Int) = ((2 ^ (p - 1) : Nat) : Int) * 2 := by
      have e : p = p - 1 + 1 := by omega
      have e2 : ((2 ^ 1 : Nat) : Int) = 2 := by decide
      conv => lhs; rw [e, p2_add, e2]
    by_cases c : p ≤ pl
    · have eX : n * ((2 ^ pl : Nat) : Int) = (n * ((2 ^ (pl - p) : Nat) : Int)) * ((2 ^ p : Nat) : Int) := by
        have e : pl = pl - p + p := by omega
        conv => lhs; rw [e, p2_add]
        rw [Int.mul_assoc]
      have ne : ¬ D = n * ((2 ^ (pl - p) : Nat) : Int) := fun z => by
        by_cases d : pl - p ≤ 20
        · have a1 := p2_le d
          have e20 : ((2 ^ 20 : Nat) : Int) = 1048576 := by decide
          rw [e20] at a1
          have pp := p2_pos (pl - p)
          generalize ((2 ^ (pl - p) : Nat) : Int) = R at z a1 pp
          have b1 : n * R ≤ 2147483648 * R := Int.mul_le_mul_of_nonneg_right hn2 (by omega)
          have b2 : (-2147483648) * R ≤ n * R := Int.mul_le_mul_of_nonneg_right hn1 (by omega)
          omega
        · apply h1
          have e : pl - p = 21 + (pl - p - 21) := by omega
          have e21 : ((2 ^ 21 : Nat) : Int) = 2097152 := by decide
          rw [e, p2_add, e21] at z
          rw [z, ← Int.mul_assoc, Int.mul_comm n, Int.mul_assoc]
          exact Int.mul_emod_right _ _
      rw [eX]
      generalize n * ((2 ^ (pl - p) : Nat) : Int) = y at ne ⊢
      rw [eP] at h2 h3 ⊢
      generalize ((2 ^ (p - 1) : Nat) : Int) = H at pH h2 h3 ⊢
      rcases Int.lt_or_gt_of_ne ne with q | q
      · have := Int.mul_le_mul_of_nonneg_right (show D + 1 ≤ y by omega) (show 0 ≤ H * 2 by omega)
        rw [Int.add_mul, Int.one_mul] at this
        generalize D * (H * 2) = a at this h2 h3 ⊢
        generalize y * (H * 2) = b at this ⊢
        omega
      · have := Int.mul_le_mul_of_nonneg_right (show y + 1 ≤ D by omega) (show 0 ≤ H * 2 by omega)
        rw [Int.add_mul, Int.one_mul] at this
        generalize D * (H * 2) = a at this h2 h3 ⊢
        generalize y * (H * 2) = b at this ⊢
        omega
    · have a1 := p2_le (show pl ≤ p - 1 by omega)
      have pp := p2_pos pl
      rw [eP] at h2 h3 ⊢
      generalize ((2 ^ (p - 1) : Nat) : Int) = H at pH h2 h3 a1 ⊢
      generalize ((2 ^ pl : Nat) : Int) = R at a1 pp ⊢
      have b1 : n * R ≤ 2147483648 * R := Int.mul_le_mul_of_nonneg_right hn2 (by omega)
      have b2 : (-2147483648) * R ≤ n * R := Int.mul_le_mul_of_nonneg_right hn1 (by omega)
      rcases hD with q | q
      · have := Int.mul_le_mul_of_nonneg_right q (show 0 ≤ H * 2 by omega)
        generalize D * (H * 2) = a at this h2 h3 ⊢
        generalize n * R = b at b1 b2 ⊢
        omega
      · have := Int.mul_le_mul_of_nonneg_right q (show 0 ≤ H * 2 by omega)
        generalize D * (H * 2) = a at this h2 h3 ⊢
        generalize n * R = b at b1 b2 ⊢
        omega
/-- the numbers' own digits: key, and how far from the true number -/
def blC (w : Int64) (E M : Nat) (m : Int) : Bool := decide (kX w = if 0 ≤ w then mag E M else -(mag E M) - 1) && (decide (m = (if 0 ≤ w then (M : Int) else -(M : Int)) * ((2 ^ (E - 819) : Nat) : Int)) || (!(decide ((if 0 ≤ w then (M : Int) else -(M : Int)) % 2097152 = 0)) && (decide (-((2 ^ (E - 819 - 1) : Nat) : Int) ≤ m - (if 0 ≤ w then (M : Int) else -(M : Int)) * ((2 ^ (E - 819) : Nat) : Int)) && decide (m - (if 0 ≤ w then (M : Int) else -(M : Int)) * ((2 ^ (E - 819) : Nat) : Int) ≤ ((2 ^ (E - 819 - 1) : Nat) : Int)))))
def blB (kd q u : Int32) : Bool := kd == 1 || (kd == 5 || (kd == 6 || (if kd = 0 ∧ q = 0 then true else blC (f_X1_digitsOf (enc kd q u)) (whE (f_X1_digitsOf (enc kd q u))) (whM (f_X1_digitsOf (enc kd q u))) (tS kd q))))
theorem bl_0 : vall blB = true := by decide +kernel
theorem z_dg : f_X1_digitsOf (enc 0 0 0) = 0 := by decide +kernel
theorem bl_k {kd q n k : Int32} {pl : Nat} (h : vq kd q 0) (h1 : ¬ kd = 1) (h5 : ¬ kd = 5) (h6 : ¬ kd = 6) (hn : ¬ n = 0) (k1 : -62 ≤ k.toInt) (k2 : k.toInt ≤ 90) (hpl : (pl : Int) = 256 - k.toInt) : kX (f_X1_digitsOf (enc kd q 0)) < kX (f_X1_scaled n.toInt64 k) ↔ tS kd q < n.toInt * ((2 ^ pl : Nat) : Int) := by
  obtain ⟨E2, M2, s1, s2, s3, s4, s5⟩ := sc_v hn k1 k2 hpl
  have l1 := Int32.le_toInt n
  have l2 := Int32.toInt_lt n
  have n0 : ¬ n.toInt = 0 := fun z => hn (Int32.toInt_inj.mp z)
  have pp := p2_pos pl
  have sg := mg_p s1 s2
  have n8 := ax_8 n0
  have wb := vall_e wh_0 h
  have bb := vall_e bl_0 h
  unfold whB at wb
  unfold blB at bb
  rw [Bool.or_eq_true] at wb bb
  replace wb := wb.resolve_left (fun z => h1 (eq_of_beq z))
  replace bb := bb.resolve_left (fun z => h1 (eq_of_beq z))
  rw [Bool.or_eq_true] at wb bb
  replace wb := wb.resolve_left (fun z => h5 (eq_of_beq z))
  replace bb := bb.resolve_left (fun z => h5 (eq_of_beq z))
  rw [Bool.or_eq_true] at wb bb
  replace wb := wb.resolve_left (fun z => h6 (eq_of_beq z))
  replace bb := bb.resolve_left (fun z => h6 (eq_of_beq z))
  by_cases z : kd = 0 ∧ q = 0
  · rw [if_pos z, Bool.and_eq_true] at wb
    have t0 := of_decide_eq_true wb.1
    have k0 : kX (f_X1_digitsOf (enc kd q 0)) = 0 := by
      rw [z.1, z.2, z_dg]
      rfl
    rw [t0, k0, s5]
    by_cases p : 0 ≤ n.toInt
    · rw [if_pos p]
      exact ⟨fun _ => Int.mul_pos (n8.1 p) pp, fun _ => sg⟩
    · rw [if_neg p]
      exact ax_0 sg (ax_7 pp (n8.2 p))
  · rw [if_neg z] at wb bb
    generalize f_X1_digitsOf (enc kd q 0) = w at wb bb ⊢
    generalize whE w = E at wb bb
    generalize whM w = M at wb bb
    generalize tS kd q = m at wb bb ⊢
    unfold whC at wb
    unfold blC at bb
    simp only [Bool.and_eq_true, Bool.or_eq_true, Bool.not_eq_true', beq_eq_false_iff_ne, beq_iff_eq, decide_eq_true_eq, decide_eq_false_iff_not, Nat.ble_eq, Nat.blt_eq] at wb bb
    obtain ⟨-, -, -, E1', E2', -, M1, M2', -, hb⟩ := wb
    obtain ⟨kw, hr⟩ := bb
    rw [kw, s5]
    have pE := p2_pos (E - 819 + 51)
    have mp := mg_p (E := E) (M := M) (by omega) M1
    have mc := mg_c (E1 := E) (M1 := M) (E2 := E2) (M2 := M2) (by omega) s1 M1 M2' s2 s3
    have mc2 := mg_c (E1 := E2) (M1 := M2) (E2 := E) (M2 := M) s1 (by omega) s2 s3 M1 M2'
    have hD : (if 0 ≤ w then (M : Int) else -(M : Int)) ≤ -4503599627370496 ∨ 4503599627370496 ≤ (if 0 ≤ w then (M : Int) else -(M : Int)) := by split <;> omega
    have rr := rnd (D := if 0 ≤ w then (M : Int) else -(M : Int)) (n := n.toInt) (m := m) (p := E - 819) (pl := pl) (by omega) hD (by omega) (by omega) hr
    clear hr hD kw
    by_cases p : 0 ≤ w
    · rw [if_pos p, decide_eq_true_eq] at hb
      rw [if_pos p] at rr ⊢
      by_cases c : 0 ≤ n.toInt
      · rw [if_pos c] at s4 ⊢
        rw [mc, s4]
        exact rr
      · rw [if_neg c]
        exact ax_1 mp sg (Int.le_trans (Int.le_of_lt pE) hb) (ax_7 pp (n8.2 c))
    · rw [if_neg p, decide_eq_true_eq] at hb
      rw [if_neg p] at rr ⊢
      by_cases c : 0 ≤ n.toInt
      · rw [if_pos c]
        exact ax_2 mp sg (ax_6 pE hb) (Int.mul_pos (n8.1 c) pp)
      · rw [if_neg c] at s4 ⊢
        rw [Int.neg_mul] at s4 rr
        exact ax_3 mc2 s4 rr
/-- what is placed -/
theorem pl_n {n k : Int32} {pl : Nat} (hpl : (256 : Int32) - k = Int32.ofNat pl) (hp : pl ≤ 318) : svN (tv (r_X7_placed n (256 - k)) 0 11) = n.toInt * ((2 ^ pl : Nat) : Int) := by
  have l1 := Int32.le_toInt n
  have l2 := Int32.toInt_lt n
  have ep : (Int32.ofNat pl).toInt = pl := nI_toInt (by omega)
  have h := qv_pl n (pl9 := Int32.ofNat pl) (by omega) (by omega)
  rw [hpl]
  have e2 : (Int32.ofNat pl).toInt.toNat = pl := by omega
  have e3 : (2 : Int) ^ pl = ((2 ^ pl : Nat) : Int) := (Int.natCast_pow 2 pl).symm
  have e4 : (qB : Int) ^ 11 = 2 ^ 352 := by decide +kernel
  rw [e2, e3, e4] at h
  have a1 := p2_le hp
  have pp := p2_pos pl
  have e318 : ((2 ^ 318 : Nat) : Int) * 4294967296 = 2 ^ 350 := by decide +kernel
  generalize ((2 ^ pl : Nat) : Int) = R at h a1 pp ⊢
  have b1 : n.toInt * R ≤ 2147483648 * R := Int.mul_le_mul_of_nonneg_right (by omega) (by omega)
  have b2 : (-2147483648) * R ≤ n.toInt * R := Int.mul_le_mul_of_nonneg_right (by omega) (by omega)
  generalize ((2 ^ 318 : Nat) : Int) = Q at a1 e318
  generalize n.toInt * R = Y at h b1 b2 ⊢
  unfold svN
  generalize tv (r_X7_placed n (Int32.ofNat pl)) 0 11 = v at h ⊢
  by_cases c : v < 2 ^ 351
  · rw [if_pos c]
    omega
  · rw [if_neg c]
    omega
/-- the class's count is the model's -/
theorem bl_f {how : Int32} {w : Int64} {g : qR} {X : sM} (hg : ¬ how < 0 ∧ ¬ 3 < how) (hc : ∀ q : Int32, inS how q → (0 ≤ f_X1_compare (f_X4_digitsAt how q) w ↔ 0 ≤ r_X7_compare (r_X7_trueIn how q X) g)) (h0 : 0 ≤ f_X1_compare (-9223372036854775808) w ↔ svN (tv g 0 11) ≤ 0) : f_X4_countAhead how w = r_X7_less how g X := by
  obtain ⟨b1, b2⟩ := sb_e hg
  have hb : (f_X4_lastQ how + 1).toInt = (f_X4_lastQ how).toInt + 1 ∧ ((f_X4_lastQ how + 1).toInt - (f_X4_firstQ how).toInt).toNat < 2 ^ (11 - 1) ∧ (f_X4_firstQ how).toInt ≤ (f_X4_lastQ how).toInt + 1 := by
    rcases how_c hg with rfl | rfl | rfl | rfl <;> decide
  have e : f_X4_countAhead how w = caE how w (lf_X7_less_15 how g 11 (f_X4_firstQ how) (f_X4_lastQ how + 1) X).1 := sea_v hg hc 11 _ _ 0 (by decide) (by decide) (by decide) (fun z => by rw [Int32.lt_iff_toInt_lt] at z; omega) (by omega) hb.2.2 hb.2.1
  rw [e]
  unfold caE r_X7_less
  rw [b1, b2]
  by_cases z : how = 0
  · subst z
    rw [if_pos rfl, if_pos rfl]
    obtain ⟨l1, l2⟩ := les_0 (g := g) (X := X) 11 (f_X4_firstQ 0) (f_X4_lastQ 0 + 1) (by decide) (by decide) (by decide)
    have e0 : (0 : Int32).toInt = 0 := rfl
    generalize (lf_X7_less_15 0 g 11 (f_X4_firstQ 0) (f_X4_lastQ 0 + 1) X).1 = lo at l1 l2 ⊢
    by_cases p : 0 < svN (tv g 0 11)
    · have lo0 : ¬ lo ≤ 0 := by
        rw [Int32.le_iff_toInt_le]
        have := l2 p (by decide) (by decide) (by decide)
        omega
      rw [if_neg (fun y => absurd (h0.mp y) (by omega)), if_neg lo0]
    · have lo0 : lo ≤ 0 := by rw [Int32.le_iff_toInt_le]; exact l1 (by omega) (by decide)
      rw [if_pos (h0.mpr (by omega)), if_pos lo0, Int32.add_zero]
  · rw [if_neg z, if_neg z, Int32.add_zero]
theorem kU : kX (-9223372036854775808) = -1 := by decide
theorem bel_v {how n k : Int32} (X : sM) (hg : ¬ how < 0 ∧ ¬ 3 < how) (hk : ¬ k < -62 ∧ ¬ 90 < k) : (if n = 0 then f_X4_countAhead how (-9223372036854775808) else f_X4_countAhead how (f_X1_scaled n.toInt64 k)) = r_X7_less how (r_X7_placed n (256 - k)) X := by
  obtain ⟨pl, l1, l2, l3, l4, l5⟩ := pl_k hk
  have pn := pl_n (n := n) l3 (by omega)
  by_cases z : n = 0
  · have n0 : n.toInt = 0 := by rw [z]; rfl
    rw [n0, Int.zero_mul] at pn
    rw [if_pos z]
    refine bl_f hg (fun q s => ?_) ?_
    · have h := ser_c (how := how) (q := q) (a := 0) (b := 0) (c := 1) X s (vq_z (Or.inr rfl)) (by decide)
      rw [dz_e] at h
      rw [h, cmp_v, cmp_v, pn]
      have t0 : svN (tv (r_X7_trueOf 0 0 X) 0 11) = 0 := by
        rw [true_v X (vq_t (vq_z (Or.inr rfl)))]
        decide +kernel
      rw [t0]
    · rw [cmpX, cmpI_0, kU, pn]
      omega
  · rw [if_neg z]
    have n0 : ¬ n.toInt = 0 := fun y => z (Int32.toInt_inj.mp y)
    refine bl_f hg (fun q s => ?_) ?_
    · obtain ⟨n1, n5, n6⟩ := snk_n (q := q) hg
      rw [cmpX, cmpI_0, cmp_v, cmpI_0, ser_t X s, (ser_v s).1, pn, bl_k (ser_q s) n1 n5 n6 z l4 l5 l1]
    · obtain ⟨E2, M2, s1, s2, s3, s4, s5⟩ := sc_v z l4 l5 l1
      have sg := mg_p s1 s2
      have pp := p2_pos pl
      have n8 := ax_8 n0
      rw [cmpX, cmpI_0, kU, pn, s5]
      by_cases p : 0 ≤ n.toInt
      · rw [if_pos p]
        exact ax_4 sg (Int.mul_pos (n8.1 p) pp)
      · rw [if_neg p]
        exact ax_5 sg (ax_7 pp (n8.2 p))
