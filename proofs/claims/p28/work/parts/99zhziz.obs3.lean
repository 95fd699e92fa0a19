/-! digits of the model's rows -/
theorem dgN (f : Nat → Int32) {p : Nat} (hp : p < 352) : (r_X7_digitAt (Int32.ofNat p) f).toBitVec.toNat = tv f 0 11 / 2 ^ p % 2 := by
  have ep : (Int32.ofNat p).toInt = p := nI_toInt (by omega)
  obtain ⟨d1, d2⟩ := pl_d32 (p := Int32.ofNat p) (by omega)
  have ea : (Int32.ofNat p / 32).toNatClampNeg = p / 32 := by
    show (Int32.ofNat p / 32).toInt.toNat = _
    rw [d1, ep]
    omega
  have er : ((Int32.ofNat p).toInt % 32).toNat = p % 32 := by rw [ep]; omega
  have hx := dg_x (f (p / 32)) (r := p % 32) (Nat.mod_lt _ (by decide))
  obtain ⟨c, hc⟩ : ∃ c : Nat, 11 = p / 32 + (c + 1) := ⟨10 - p / 32, by omega⟩
  have hv : tv f 0 11 / 2 ^ p % 2 = qu (f (p / 32)) / 2 ^ (p % 32) % 2 := by
    have h1 := tv_split f (c + 1) (p / 32) 0
    have h2 := tv_lt f (p / 32) 0
    have e2 : 2 ^ p = qB ^ (p / 32) * 2 ^ (p % 32) := by
      have e3 : p = 32 * (p / 32) + p % 32 := by omega
      rw [qB_e]
      conv => lhs; rw [e3, Nat.pow_add, Nat.pow_mul]
    rw [hc, h1, e2, ← Nat.div_div_eq_div_mul, Nat.add_mul_div_left _ _ (Nat.lt_of_le_of_lt (Nat.zero_le _) h2), Nat.div_eq_of_lt h2, Nat.zero_add, Nat.zero_add, tv]
    have e4 : qB = 2 ^ (p % 32) * (2 * 2 ^ (31 - p % 32)) := by
      rw [qB_e, ← Nat.pow_succ', ← Nat.pow_add]
      have : p % 32 + (31 - p % 32).succ = 32 := by omega
      rw [this]
    rw [e4, Nat.mul_assoc, Nat.add_mul_div_left _ _ (Nat.pow_pos (by decide)), Nat.mul_assoc, Nat.add_mul_mod_self_left]
  rw [hv]
  unfold r_X7_digitAt
  rw [if_neg (by rw [Int32.le_iff_toInt_le, ep]; have : (352 : Int32).toInt = 352 := rfl; omega), ea, d2, er]
  exact hx
theorem i01 {x : Int32} {b : Nat} (hb : b < 2) (h : x.toBitVec.toNat = b) : x = Int32.ofInt (b : Int) := by
  rcases (show b = 0 ∨ b = 1 by omega) with rfl | rfl
  · exact Int32.toBitVec_inj.mp (BitVec.eq_of_toNat_eq h)
  · exact Int32.toBitVec_inj.mp (BitVec.eq_of_toNat_eq h)
/-- a digit of a whole number below 0, too -/
theorem svd {v : Nat} (n : Nat) (hn : n < 352) : svN v / 2 ^ n % 2 = ((v / 2 ^ n % 2 : Nat) : Int) := by
  have ep : ((2 ^ n : Nat) : Int) = (2 : Int) ^ n := by push_cast; rfl
  have e0 : ((v : Int) / 2 ^ n % 2) = ((v / 2 ^ n % 2 : Nat) : Int) := by
    rw [← ep]
    omega
  unfold svN
  by_cases h : v < 2 ^ 351
  · rw [if_pos h]
    exact e0
  · rw [if_neg h, ← e0]
    have e1 : (2 : Int) ^ 352 = 2 ^ n * (2 * 2 ^ (351 - n)) := by
      rw [← Int.pow_succ', ← Int.pow_add]
      congr 1
      omega
    have hp : (2 : Int) ^ n ≠ 0 := by
      have : (0 : Int) < 2 ^ n := Int.pow_pos (by decide)
      omega
    rw [e1, Int.sub_eq_add_neg, Int.neg_mul_eq_mul_neg, Int.add_mul_ediv_left _ _ hp]
    generalize (v : Int) / 2 ^ n = y
    generalize (2 : Int) ^ (351 - n) = z
    omega
theorem dgE (f : Nat → Int32) {p : Nat} (hp : p < 352) : r_X7_digitAt (Int32.ofNat p) f = Int32.ofInt (svN (tv f 0 11) / 2 ^ p % 2) := by
  rw [svd p hp]
  exact i01 (Nat.mod_lt _ (by decide)) (dgN f hp)
theorem ofI_add (a : Nat) (b : Nat) : Int32.ofNat a + Int32.ofNat b = Int32.ofNat (a + b) := (Int32.ofNat_add a b).symm
theorem pw_dv (W : Int) (a b : Nat) : W / 2 ^ (a + b) = W / 2 ^ a / 2 ^ b := by
  rw [Int.pow_add, Int.ediv_ediv_of_nonneg (Int.le_of_lt (Int.pow_pos (by decide)))]
theorem em_s (Y : Int) (m : Nat) : Y % 2 ^ (m + 1) = 2 ^ m * (Y / 2 ^ m % 2) + Y % 2 ^ m := by
  have h1 := Int.emod_add_mul_ediv Y (2 ^ (m + 1))
  have h2 := Int.emod_add_mul_ediv Y (2 ^ m)
  have h3 := Int.emod_add_mul_ediv (Y / 2 ^ m) 2
  have h4 : Y / 2 ^ (m + 1) = Y / 2 ^ m / 2 := by rw [pw_dv, Int.pow_succ, Int.pow_zero, Int.one_mul]
  rw [h4, Int.pow_succ] at h1
  rw [Int.pow_succ]
  generalize Y / 2 ^ m / 2 = q at h1 h3 ⊢
  generalize Y / 2 ^ m % 2 = r at h3 ⊢
  generalize Y / 2 ^ m = d at h2 h3 ⊢
  subst h3
  rw [Int.mul_add, ← Int.mul_assoc] at h2
  generalize (2 : Int) ^ m * r = u at h2 ⊢
  generalize (2 : Int) ^ m * 2 * q = w at h1 h2 ⊢
  omega
theorem k_1 (m : Nat) (hm : m < 33) : Int32.ofInt ((m : Int) + 1 - 1) + (-1) = Int32.ofInt ((m : Int) - 1) := by
  have h : ∀ m : Nat, m < 33 → Int32.ofInt ((m : Int) + 1 - 1) + (-1) = Int32.ofInt ((m : Int) - 1) := by decide +kernel
  exact h m hm
theorem k_2 (m : Nat) (hm : m < 33) : ¬ Int32.ofInt ((m : Int) + 1 - 1) < 0 := by
  have h : ∀ m : Nat, m < 33 → ¬ Int32.ofInt ((m : Int) + 1 - 1) < 0 := by decide +kernel
  exact h m hm
theorem k_3 (m : Nat) : Int32.ofInt ((m : Int) + 1 - 1) = Int32.ofNat m := by
  rw [Int.add_sub_cancel]
  exact Int32.ofInt_eq_ofNat
theorem dfr_5 (f : Nat → Int32) {pl : Nat} (hpl : pl ≤ 320) : ∀ (m fu : Nat) (X : Int), m ≤ 32 → m < fu → lr_X7_digitsFrom_5 (Int32.ofNat pl) f fu (Int32.ofInt X) (Int32.ofInt ((m : Int) - 1)) = Int32.ofInt (2 ^ m * X + svN (tv f 0 11) / 2 ^ pl % 2 ^ m)
  | 0, fu + 1, X, _, _ => by
    rw [lr_X7_digitsFrom_5, if_pos (by decide)]
    rw [Int.pow_zero, Int.one_mul, Int.emod_one, Int.add_zero]
  | m + 1, fu + 1, X, hm, hf => by
    rw [lr_X7_digitsFrom_5]
    have ec : (((m + 1 : Nat) : Int) - 1) = (m : Int) + 1 - 1 := by omega
    rw [ec, if_neg (k_2 m (by omega)), k_1 m (by omega), k_3, ofI_add, dgE f (by omega)]
    have e2 : (2 : Int32) * Int32.ofInt X + Int32.ofInt (svN (tv f 0 11) / 2 ^ (pl + m) % 2) = Int32.ofInt (2 * X + svN (tv f 0 11) / 2 ^ (pl + m) % 2) := by
      rw [Int32.ofInt_add, Int32.ofInt_mul]
      rfl
    rw [e2, dfr_5 f hpl m fu _ (by omega) (by omega), em_s, pw_dv, Int.mul_add, Int.pow_succ]
    congr 1
    rw [Int.mul_assoc]
    generalize (2 : Int) ^ m * (2 * X) = a
    generalize (2 : Int) ^ m * (svN (tv f 0 11) / 2 ^ pl / 2 ^ m % 2) = b
    omega
theorem dfr (f : Nat → Int32) {pl : Nat} (hpl : pl ≤ 320) : r_X7_digitsFrom (Int32.ofNat pl) f = Int32.ofInt (svN (tv f 0 11) / 2 ^ pl) := by
  have h := dfr_5 f hpl 32 33 0 (by decide) (by decide)
  have e : r_X7_digitsFrom (Int32.ofNat pl) f = lr_X7_digitsFrom_5 (Int32.ofNat pl) f 33 (Int32.ofInt 0) (Int32.ofInt (((32 : Nat) : Int) - 1)) := rfl
  rw [e, h, Int.mul_zero, Int.zero_add]
  apply Int32.toInt_inj.mp
  rw [Int32.toInt_ofInt, Int32.toInt_ofInt]
  have es : Int32.size = 2 ^ 32 := rfl
  rw [es]
  generalize svN (tv f 0 11) / 2 ^ pl = y
  have e3 : (2 : Int) ^ 32 = ((2 ^ 32 : Nat) : Int) := by decide
  rw [e3]
  exact Int.emod_bmod _ _
/-- whether it is an int -/
def sgB (f : Nat → Int32) : Int := if 0 ≤ f 10 then 0 else 1
theorem sv_b (f : Nat → Int32) : -(2 ^ 351) ≤ svN (tv f 0 11) ∧ svN (tv f 0 11) < 2 ^ 351 ∧ (sgB f = if svN (tv f 0 11) < 0 then 1 else 0) := by
  have h := tv_lt f 11 0
  have e : qB ^ 11 = 2 ^ 352 := by rw [qB_e]; decide +kernel
  rw [e] at h
  have s := sg_v f
  unfold sgB svN
  generalize tv f 0 11 = v at h s ⊢
  by_cases c : v < 2 ^ 351
  · rw [if_pos c, if_pos (s.mpr c)]
    refine ⟨by omega, by omega, ?_⟩
    rw [if_neg (by omega)]
  · rw [if_neg c, if_neg (fun z => c (s.mp z))]
    refine ⟨by omega, by omega, ?_⟩
    rw [if_pos (by omega)]
theorem dg352 (f : Nat → Int32) : r_X7_digitAt 352 f = Int32.ofInt (sgB f) := by
  unfold r_X7_digitAt sgB
  rw [if_pos (by decide)]
  have e : (10 : Int32).toNatClampNeg = 10 := rfl
  rw [e]
  split <;> rfl
theorem b_ne {x y : Int} (hx : x = 0 ∨ x = 1) (hy : y = 0 ∨ y = 1) (h : ¬ x = y) : ¬ Int32.ofInt x = Int32.ofInt y := by
  rcases hx with rfl | rfl <;> rcases hy with rfl | rfl
  · exact absurd rfl h
  · decide
  · decide
  · exact absurd rfl h
theorem hv_2 (W : Int) (k : Nat) : W / 2 ^ k = 2 * (W / 2 ^ (k + 1)) + W / 2 ^ k % 2 := by
  have h4 : W / 2 ^ (k + 1) = W / 2 ^ k / 2 := by rw [pw_dv, Int.pow_succ, Int.pow_zero, Int.one_mul]
  rw [h4]
  omega
theorem isI_5 (f : Nat → Int32) (P : Int32) : ∀ (fu k : Nat), k ≤ 352 → 352 - k < fu → lr_X7_isInt_5 P f fu (Int32.ofNat k) = if svN (tv f 0 11) / 2 ^ k = -(sgB f) then 1 else 0
  | 0, _, _, h => absurd h (Nat.not_lt_zero _)
  | fu + 1, k, hk, hf => by
    obtain ⟨b1, b2, b3⟩ := sv_b f
    have ek : (Int32.ofNat k).toInt = k := nI_toInt (by omega)
    have e352 : (352 : Int32).toInt = 352 := rfl
    rw [lr_X7_isInt_5]
    by_cases c : 352 ≤ k
    · have e : k = 352 := by omega
      subst e
      rw [if_pos (by rw [Int32.le_iff_toInt_le]; omega)]
      have h : svN (tv f 0 11) / 2 ^ 352 = -(sgB f) := by
        rw [b3]
        generalize svN (tv f 0 11) = W at b1 b2 ⊢
        by_cases z : W < 0
        · rw [if_pos z]
          omega
        · rw [if_neg z]
          omega
      rw [if_pos h]
    · rw [if_neg (by rw [Int32.le_iff_toInt_le]; omega), dgE f (by omega), dg352]
      have h2 := hv_2 (svN (tv f 0 11)) k
      have hs : sgB f = 0 ∨ sgB f = 1 := by
        rw [b3]
        split
        · exact Or.inr rfl
        · exact Or.inl rfl
      have en : Int32.ofNat k + 1 = Int32.ofNat (k + 1) := (Int32.ofNat_add k 1).symm
      rw [en]
      have hr := isI_5 f P fu (k + 1) (by omega) (by omega)
      have hm : svN (tv f 0 11) / 2 ^ k % 2 = 0 ∨ svN (tv f 0 11) / 2 ^ k % 2 = 1 := by omega
      by_cases z : svN (tv f 0 11) / 2 ^ k % 2 = sgB f
      · rw [if_pos (by rw [z]), hr]
        by_cases y : svN (tv f 0 11) / 2 ^ (k + 1) = -(sgB f)
        · rw [if_pos y, if_pos (by omega)]
        · rw [if_neg y, if_neg (by omega)]
      · rw [if_neg (b_ne hm hs z), if_neg (by omega)]
theorem isI (f : Nat → Int32) {pl : Nat} (hpl : pl ≤ 320) : r_X7_isInt (Int32.ofNat pl) f = if -2147483648 ≤ svN (tv f 0 11) / 2 ^ pl ∧ svN (tv f 0 11) / 2 ^ pl ≤ 2147483647 then 1 else 0 := by
  have e : Int32.ofNat pl + 31 = Int32.ofNat (pl + 31) := (Int32.ofNat_add pl 31).symm
  unfold r_X7_isInt
  rw [e, isI_5 f _ 353 (pl + 31) (by omega) (by omega), pw_dv]
  obtain ⟨b1, b2, b3⟩ := sv_b f
  have hsgn : svN (tv f 0 11) < 0 ↔ svN (tv f 0 11) / 2 ^ pl < 0 := by
    have h2 : (0 : Int) < 2 ^ pl := Int.pow_pos (by decide)
    have h3 := Int.le_ediv_iff_mul_le (a := 0) (b := svN (tv f 0 11)) h2
    rw [Int.zero_mul] at h3
    generalize svN (tv f 0 11) / 2 ^ pl = y at h3 ⊢
    generalize svN (tv f 0 11) = z at h3 ⊢
    omega
  rw [b3]
  generalize svN (tv f 0 11) / 2 ^ pl = y at hsgn ⊢
  generalize svN (tv f 0 11) = W at hsgn ⊢
  by_cases z : W < 0
  · rw [if_pos z]
    have := hsgn.mp z
    by_cases q : -2147483648 ≤ y ∧ y ≤ 2147483647
    · rw [if_pos q, if_pos (by omega)]
    · rw [if_neg q, if_neg (by omega)]
  · rw [if_neg z]
    have : ¬ y < 0 := fun t => z (hsgn.mpr t)
    by_cases q : -2147483648 ≤ y ∧ y ≤ 2147483647
    · rw [if_pos q, if_pos (by omega)]
    · rw [if_neg q, if_neg (by omega)]
