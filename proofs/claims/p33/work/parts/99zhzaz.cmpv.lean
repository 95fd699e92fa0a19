/-! rows of the model held against each other: whole numbers -/
def cmpI (a b : Int) : Int32 := if a < b then -1 else if a = b then 0 else 1
theorem j13_v (x y : Int64) : f_J13_compare_74951 x y = cmpI x.toInt y.toInt := by
  unfold f_J13_compare_74951 cmpI
  by_cases h : y ≤ x
  · rw [if_pos h]
    have h1 := Int64.le_iff_toInt_le.mp h
    rw [if_neg (show ¬ x.toInt < y.toInt by omega)]
    by_cases e : x = y
    · rw [if_pos e, if_pos (by rw [e])]
    · rw [if_neg e, if_neg (fun z => e (Int64.toInt_inj.mp z))]
  · rw [if_neg h]
    rw [Int64.le_iff_toInt_le] at h
    rw [if_pos (show x.toInt < y.toInt by omega)]
theorem cmpI_lt {a b X x y : Int} (ha : a < X) (hb : 0 ≤ b) (hX : 0 ≤ X) (h : x < y) : a + x * X < b + y * X := by
  have h1 : (x + 1) * X ≤ y * X := Int.mul_le_mul_of_nonneg_right (by omega) hX
  rw [Int.add_mul, Int.one_mul] at h1
  generalize x * X = p at h1 ⊢
  generalize y * X = q at h1 ⊢
  omega
theorem cmpI_top {a b X x y : Int} (ha0 : 0 ≤ a) (ha : a < X) (hb0 : 0 ≤ b) (hb : b < X) (h : ¬ x = y) : cmpI (a + x * X) (b + y * X) = cmpI x y := by
  unfold cmpI
  rw [if_neg h]
  rcases Int.lt_or_gt_of_ne h with h1 | h1
  · rw [if_pos (cmpI_lt ha hb0 (by omega) h1), if_pos h1]
  · have := cmpI_lt hb ha0 (by omega) h1
    rw [if_neg (by omega), if_neg (by omega), if_neg (by omega)]
theorem cmpI_same (a b z : Int) : cmpI (a + z) (b + z) = cmpI a b := by
  unfold cmpI
  by_cases h : a < b
  · rw [if_pos h, if_pos (by omega)]
  · rw [if_neg h, if_neg (by omega)]
    by_cases e : a = b
    · rw [if_pos e, if_pos (by omega)]
    · rw [if_neg e, if_neg (by omega)]
theorem qu_ne {x y : Int32} (h : ¬ x = y) : ¬ (qu x : Int) = (qu y : Int) := fun e => h (by
  have e2 : qu x = qu y := by omega
  exact Int32.toBitVec_inj.mp (BitVec.eq_of_toNat_eq e2))
theorem tvS (f : Nat → Int32) (k : Nat) : (tv f 0 (k + 1) : Int) = (tv f 0 k : Int) + (qu (f k) : Int) * ((qB ^ k : Nat) : Int) := by
  rw [tv_snoc, Nat.zero_add]
  push_cast
  rfl
theorem cmp_lo (f g : Nat → Int32) : ∀ (fu : Nat) (k : Int32), 0 ≤ k.toInt → k.toInt.toNat < fu → lr_X7_compare_27 f g fu k = cmpI (tv f 0 (k.toInt.toNat + 1)) (tv g 0 (k.toInt.toNat + 1))
  | 0, _, _, h => absurd h (Nat.not_lt_zero _)
  | fu + 1, k, h0, h => by
    rw [lr_X7_compare_27]
    have e0 : (0 : Int32).toInt = 0 := rfl
    have ek : k.toNatClampNeg = k.toInt.toNat := rfl
    rw [tvS, tvS]
    by_cases c : k ≤ 0
    · rw [if_pos c, j13_v, qv_lo, qv_lo, ek]
      rw [Int32.le_iff_toInt_le] at c
      have e : k.toInt.toNat = 0 := by omega
      rw [e]
      show cmpI (qu (f 0)) (qu (g 0)) = cmpI (0 + (qu (f 0) : Int) * 1) (0 + (qu (g 0) : Int) * 1)
      rw [Int.zero_add, Int.zero_add, Int.mul_one, Int.mul_one]
    · rw [if_neg c]
      have d := qm_dec c
      rw [Int32.le_iff_toInt_le] at c
      by_cases e : f k.toNatClampNeg = g k.toNatClampNeg
      · rw [if_pos e, qm_m1, cmp_lo f g fu (k - 1) (by omega) (by omega)]
        have e2 : (k - 1).toInt.toNat + 1 = k.toInt.toNat := by omega
        rw [e2, ← ek, e, cmpI_same]
      · rw [if_neg e, j13_v, qv_lo, qv_lo, ek]
        rw [ek] at e
        have l1 := tv_lt f k.toInt.toNat 0
        have l2 := tv_lt g k.toInt.toNat 0
        exact (cmpI_top (by omega) (Int.ofNat_lt.mpr l1) (by omega) (Int.ofNat_lt.mpr l2) (qu_ne e)).symm
def svN (v : Nat) : Int := if v < 2 ^ 351 then (v : Int) else (v : Int) - 2 ^ 352
theorem qu_s (x : Int32) : (qu x : Int) = if 0 ≤ x.toInt then x.toInt else x.toInt + 4294967296 := by
  have h := Int32.toInt_toBitVec x
  have h2 := qu_lt x
  have h3 : x.toInt = x.toBitVec.toInt := rfl
  have h4 := BitVec.toInt_eq_toNat_bmod x.toBitVec
  have h5 : x.toBitVec.toNat = qu x := rfl
  rw [h5] at h4
  have l1 := Int32.le_toInt x
  have l2 := Int32.toInt_lt x
  rw [h3] at l1 l2 ⊢
  rw [Int.bmod_def] at h4
  split <;> split at h4 <;> omega
theorem sv_e (f : Nat → Int32) : svN (tv f 0 11) = (tv f 0 10 : Int) + (f 10).toInt * ((qB ^ 10 : Nat) : Int) := by
  have h := tvS f 10
  have l := tv_lt f 10 0
  have q := qu_s (f 10)
  have eX : qB ^ 10 = 2 ^ 320 := by decide +kernel
  rw [eX] at h l ⊢
  have l1 := Int32.le_toInt (f 10)
  have l2 := Int32.toInt_lt (f 10)
  unfold svN
  have p : ((2 ^ 320 : Nat) : Int) = 2 ^ 320 := by decide +kernel
  rw [p] at h ⊢
  have l' : (tv f 0 10 : Int) < 2 ^ 320 := by rw [← p]; exact Int.ofNat_lt.mpr l
  generalize tv f 0 10 = a at h l l' ⊢
  generalize tv f 0 11 = b at h ⊢
  generalize (f 10).toInt = t at q l1 l2 ⊢
  generalize qu (f 10) = u at q h
  by_cases s : 0 ≤ t
  · rw [if_pos s] at q
    subst q
    rw [h]
    have : b < 2 ^ 351 := by omega
    rw [if_pos this]
  · rw [if_neg s] at q
    have : ¬ b < 2 ^ 351 := by
      rw [q] at h
      omega
    rw [if_neg this, h, q]
    omega
theorem cmp_v (f g : Nat → Int32) : r_X7_compare f g = cmpI (svN (tv f 0 11)) (svN (tv g 0 11)) := by
  have e10 : (10 : Int32).toNatClampNeg = 10 := rfl
  unfold r_X7_compare
  rw [e10]
  by_cases e : f 10 = g 10
  · rw [if_pos e, cmp_lo f g 11 10 (by decide) (by decide)]
    show cmpI (tv f 0 11) (tv g 0 11) = _
    rw [tvS f 10, tvS g 10, sv_e, sv_e, e, cmpI_same, cmpI_same]
  · rw [if_neg e, sv_e, sv_e]
    have l1 := tv_lt f 10 0
    have l2 := tv_lt g 10 0
    rw [cmpI_top (by omega) (Int.ofNat_lt.mpr l1) (by omega) (Int.ofNat_lt.mpr l2) (fun z => e (Int32.toInt_inj.mp z))]
    unfold cmpI
    by_cases h : g 10 ≤ f 10
    · rw [if_pos h]
      rw [Int32.le_iff_toInt_le] at h
      rw [if_neg (by omega), if_neg (fun z => e (Int32.toInt_inj.mp z))]
    · rw [if_neg h]
      rw [Int32.le_iff_toInt_le] at h
      rw [if_pos (by omega)]
