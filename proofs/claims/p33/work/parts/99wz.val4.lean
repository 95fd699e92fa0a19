/-! rows as numbers: unsigned longs -/
def un (x : Int64) : Nat := x.toBitVec.toNat
theorem un_add (x y : Int64) : un (x + y) = (un x + un y) % 18446744073709551616 := by
  unfold un
  rw [Int64.toBitVec_add, BitVec.toNat_add]
theorem un_mul (x y : Int64) : un (x * y) = (un x * un y) % 18446744073709551616 := by
  unfold un
  rw [Int64.toBitVec_mul, BitVec.toNat_mul]
theorem un_lo (w : Int32) : un (w.toInt64 &&& 4294967295) = qu w := by
  show (w.toBitVec.signExtend 64 &&& 4294967295#64).toNat = qu w
  rw [BitVec.toNat_and, show (4294967295#64 : BitVec 64).toNat = 2 ^ 32 - 1 from rfl, Nat.and_two_pow_sub_one_eq_mod, BitVec.toNat_signExtend, BitVec.toNat_setWidth]
  have h := w.toBitVec.isLt
  unfold qu
  by_cases hm : w.toBitVec.msb
  · rw [if_pos hm]; omega
  · rw [if_neg hm]; omega
theorem un_hi (x : Int64) : un (x.toUInt64 >>> ((32 : Int32).toInt64.toUInt64 &&& Int64.toUInt64 63)).toInt64 = un x / qB := by
  have es : (x.toUInt64 >>> ((32 : Int32).toInt64.toUInt64 &&& Int64.toUInt64 63)).toInt64.toBitVec = x.toBitVec >>> 32 := by
    show (x.toUInt64 >>> ((32 : Int32).toInt64.toUInt64 &&& Int64.toUInt64 63)).toBitVec = _
    rw [UInt64.toBitVec_shiftRight]
    rfl
  show (x.toUInt64 >>> ((32 : Int32).toInt64.toUInt64 &&& Int64.toUInt64 63)).toInt64.toBitVec.toNat = x.toBitVec.toNat / qB
  rw [es, BitVec.toNat_ushiftRight, Nat.shiftRight_eq_div_pow, qB_e]
theorem un_lo32 (x : Int64) : qu x.toInt32 = un x % qB := by
  unfold un
  rw [qu, Int64.toBitVec_toInt32, BitVec.toNat_signExtend, BitVec.toNat_setWidth]
  have e9 : (if x.toBitVec.msb = true then 2 ^ 32 - 2 ^ 64 else 0) = 0 := by split <;> rfl
  rw [e9, Nat.add_zero]
  rw [qB_e]
theorem tv_split (f : Nat → Int32) (c : Nat) : ∀ (a m : Nat), tv f m (a + c) = tv f m a + qB ^ a * tv f (m + a) c
  | 0, m => by rw [Nat.zero_add, Nat.pow_zero, Nat.one_mul, tv, Nat.zero_add, Nat.add_zero]
  | a + 1, m => by
    have h := tv_split f c a (m + 1)
    have e : a + 1 + c = (a + c) + 1 := by omega
    have e2 : m + 1 + a = m + (a + 1) := by omega
    rw [e, tv, h, e2, tv, Nat.mul_add, Nat.pow_succ, Nat.add_assoc, Nat.mul_comm (qB ^ a) qB, Nat.mul_assoc]
theorem qu_not (x : Int32) : qu (x ^^^ -1) + qu x = 4294967295 := by
  have e : (x ^^^ -1).toBitVec = ~~~ x.toBitVec := by
    rw [Int32.toBitVec_xor]
    show x.toBitVec ^^^ BitVec.allOnes 32 = _
    rw [BitVec.xor_allOnes]
  unfold qu
  rw [e, BitVec.toNat_not]
  have h := x.toBitVec.isLt
  omega
theorem tv_not (f : Nat → Int32) : ∀ (c m : Nat), tv (fun j => f j ^^^ -1) m c + tv f m c + 1 = qB ^ c
  | 0, _ => rfl
  | c + 1, m => by
    have h := tv_not f c (m + 1)
    have h2 := qu_not (f m)
    rw [tv, tv, Nat.pow_succ, Nat.mul_comm (qB ^ c) qB, ← h, Nat.mul_add, Nat.mul_add, Nat.mul_one, qB_e]
    omega
/-! sums -/
def gN (isL : Int32) (g : Nat → Int32) : Nat → Int32 := if isL = 0 then g else fun j => g j ^^^ -1
theorem qv_add (isL : Int32) (g : Nat → Int32) : ∀ (fu c : Nat) (cy : Int64) (k : Int32) (f : Nat → Int32), k.toInt + c = 11 → c < fu → 0 ≤ k.toInt → un cy ≤ 1 →
    tv (lr_X7_add_13 isL g fu cy k f) k.toInt.toNat c = (un cy + tv f k.toInt.toNat c + tv (gN isL g) k.toInt.toNat c) % qB ^ c ∧ ∀ j : Nat, (j : Int) < k.toInt → lr_X7_add_13 isL g fu cy k f j = f j
  | 0, _, _, _, _, _, h, _, _ => absurd h (Nat.not_lt_zero _)
  | fu + 1, c, cy, k, f, hc, hf, hk, c1 => by
    have e11 : (11 : Int32).toInt = 11 := rfl
    by_cases zc : 11 ≤ k
    · rw [lr_X7_add_13, if_pos zc]
      have z := Int32.le_iff_toInt_le.mp zc
      have e0 : c = 0 := by omega
      subst e0
      exact ⟨by rw [tv, Nat.pow_zero, Nat.mod_one], fun _ _ => rfl⟩
    · have z := qm_lt zc
      obtain ⟨d, rfl⟩ : ∃ d, c = d + 1 := ⟨c - 1, by omega⟩
      have ei := qm_inc zc
      have g1 : (k + 1).toInt + d = 11 := by omega
      have g2 : d < fu := by omega
      have g3 : 0 ≤ (k + 1).toInt := by omega
      have ek : k.toNatClampNeg = k.toInt.toNat := rfl
      have en : (k + 1).toInt.toNat = k.toInt.toNat + 1 := by omega
      have g4 : (k.toInt.toNat : Int) < (k + 1).toInt := by omega
      have g5 : ∀ j : Nat, (j : Int) < k.toInt → (j : Int) < (k + 1).toInt ∧ j ≠ k.toInt.toNat := fun j hj => by omega
      have key : ∀ w : Int32, w = gN isL g k.toInt.toNat → ∀ L : Int64, L = cy + (((f k.toNatClampNeg).toInt64 &&& 4294967295) + (w.toInt64 &&& 4294967295)) →
          tv (lr_X7_add_13 isL g fu (L.toUInt64 >>> ((32 : Int32).toInt64.toUInt64 &&& Int64.toUInt64 63)).toInt64 (k + 1) (upd f k.toNatClampNeg L.toInt32)) k.toInt.toNat (d + 1) = (un cy + tv f k.toInt.toNat (d + 1) + tv (gN isL g) k.toInt.toNat (d + 1)) % qB ^ (d + 1) ∧ ∀ j : Nat, (j : Int) < k.toInt → lr_X7_add_13 isL g fu (L.toUInt64 >>> ((32 : Int32).toInt64.toUInt64 &&& Int64.toUInt64 63)).toInt64 (k + 1) (upd f k.toNatClampNeg L.toInt32) j = f j := by
        intro w hw L hL
        have q1 := qu_lt (f k.toNatClampNeg)
        have q2 := qu_lt w
        have eL : un L = un cy + (qu (f k.toNatClampNeg) + qu w) := by
          rw [hL, un_add, un_add, un_lo, un_lo]
          omega
        have h1 := un_hi L
        have h2 := un_lo32 L
        have g6 : un (L.toUInt64 >>> ((32 : Int32).toInt64.toUInt64 &&& Int64.toUInt64 63)).toInt64 ≤ 1 := by rw [h1, eL, qB_e]; omega
        obtain ⟨i1, i2⟩ := qv_add isL g fu d _ (k + 1) (upd f k.toNatClampNeg L.toInt32) g1 g2 g3 g6
        rw [ek] at i1 i2 eL ⊢
        rw [en] at i1
        have j1 := i2 k.toInt.toNat g4
        rw [upd_same] at j1
        have j2 : tv (upd f k.toInt.toNat L.toInt32) (k.toInt.toNat + 1) d = tv f (k.toInt.toNat + 1) d := tv_congr _ _ fun j hj _ => upd_ne _ _ (Nat.ne_of_gt hj)
        refine ⟨?_, fun j hj => ?_⟩
        · rw [tv, i1, j1, j2, h2, h1, tv, tv, Nat.pow_succ, Nat.mul_comm (qB ^ d) qB, ← hw]
          refine qa_mul (by rw [qB_e]; decide) (congrArg (· % qB ^ d) (Nat.add_assoc _ _ _)) ?_
          rw [eL, Nat.mul_add]
          omega
        · rw [i2 j (g5 j hj).1]
          exact upd_ne _ _ (g5 j hj).2
      rw [lr_X7_add_13, if_neg zc]
      by_cases zi : isL = 0
      · rw [if_pos zi]
        exact key _ (by unfold gN; rw [if_pos zi]; rfl) _ rfl
      · rw [if_neg zi]
        exact key _ (by unfold gN; rw [if_neg zi]; rfl) _ rfl
theorem qv_add0 (g f : Nat → Int32) : tv (r_X7_add 0 g f) 0 11 = (tv f 0 11 + tv g 0 11) % qB ^ 11 := by
  have h := (qv_add 0 g 12 11 (0 : Int64) (0 : Int32) f (by decide) (by decide) (by decide) (by decide)).1
  have e : (0 : Int32).toInt.toNat = 0 := rfl
  have e1 : un (0 : Int64) = 0 := rfl
  have e2 : gN 0 g = g := by unfold gN; rw [if_pos rfl]
  rw [e, e1, e2, Nat.zero_add] at h
  unfold r_X7_add
  rw [if_pos rfl, h]
theorem qv_add1 (g f : Nat → Int32) {isL : Int32} (hl : ¬ isL = 0) : tv (r_X7_add isL g f) 0 11 = (tv f 0 11 + (qB ^ 11 - tv g 0 11)) % qB ^ 11 := by
  have h := (qv_add isL g 12 11 (1 : Int64) (0 : Int32) f (by decide) (by decide) (by decide) (by decide)).1
  have e : (0 : Int32).toInt.toNat = 0 := rfl
  have e1 : un (1 : Int64) = 1 := rfl
  have e2 : gN isL g = fun j => g j ^^^ -1 := by unfold gN; rw [if_neg hl]
  have e3 := tv_not g 11 0
  rw [e, e1, e2] at h
  have e4 : 1 + tv f 0 11 + tv (fun j => g j ^^^ -1) 0 11 = tv f 0 11 + (qB ^ 11 - tv g 0 11) := by
    revert e3
    generalize tv (fun j => g j ^^^ -1) 0 11 = a
    generalize tv g 0 11 = b
    generalize tv f 0 11 = c
    generalize qB ^ 11 = X
    intro e3
    omega
  unfold r_X7_add
  rw [if_neg hl, h, e4]
theorem qv_cpy (isL : Int32) (f g : Nat → Int32) : ∀ (fu : Nat) (k : Int32) (f1 : Nat → Int32), ((11 : Int32).toInt - k.toInt).toNat < fu → 0 ≤ k.toInt → (∀ j : Nat, (j : Int) < k.toInt → f1 j = f j) → ∃ f2 : Nat → Int32, lr_X7_sum_8 isL f g fu k f1 = r_X7_add isL g f2 ∧ ∀ j : Nat, j < 11 → f2 j = f j
  | 0, _, _, h, _, _ => absurd h (Nat.not_lt_zero _)
  | fu + 1, k, f1, h, hk, hf => by
    have e11 : (11 : Int32).toInt = 11 := rfl
    by_cases zc : 11 ≤ k
    · rw [lr_X7_sum_8, if_pos zc]
      have z := Int32.le_iff_toInt_le.mp zc
      exact ⟨f1, rfl, fun j hj => hf j (by omega)⟩
    · rw [lr_X7_sum_8, if_neg zc]
      have ei := qm_inc zc
      refine qv_cpy isL f g fu (k + 1) _ (qm_up zc h) (by omega) (fun j hj => ?_)
      by_cases e : j = k.toNatClampNeg
      · rw [e, upd_same]
      · rw [upd_ne _ _ e]
        have ek : k.toNatClampNeg = k.toInt.toNat := rfl
        exact hf j (by omega)
theorem qv_sum (isL : Int32) (f g : Nat → Int32) : ∃ f2 : Nat → Int32, r_X7_sum isL f g = r_X7_add isL g f2 ∧ tv f2 0 11 = tv f 0 11 := by
  obtain ⟨f2, h1, h2⟩ := qv_cpy isL f g 12 0 (fun _ => 0) (by decide) (by decide) (fun j hj => absurd hj (by have : (0 : Int32).toInt = 0 := rfl; omega))
  exact ⟨f2, h1, tv_congr 11 0 (fun j _ hj => h2 j (by omega))⟩
theorem qv_sum1 (f g : Nat → Int32) : tv (r_X7_sum 1 f g) 0 11 = (tv f 0 11 + (qB ^ 11 - tv g 0 11)) % qB ^ 11 := by
  obtain ⟨f2, h1, h2⟩ := qv_sum 1 f g
  rw [h1, qv_add1 g f2 (by decide), h2]
theorem qv_addA : ∀ (fu c : Nat) (cy : Int64) (k : Int32) (f : Nat → Int32), k.toInt + c = 11 → c < fu → 0 ≤ k.toInt → un cy ≤ 1 →
    tv (lr_X7_addA_13 0 fu cy k f) k.toInt.toNat c = (un cy + tv f k.toInt.toNat c + tv f k.toInt.toNat c) % qB ^ c ∧ ∀ j : Nat, (j : Int) < k.toInt → lr_X7_addA_13 0 fu cy k f j = f j
  | 0, _, _, _, _, _, h, _, _ => absurd h (Nat.not_lt_zero _)
  | fu + 1, c, cy, k, f, hc, hf, hk, c1 => by
    have e11 : (11 : Int32).toInt = 11 := rfl
    by_cases zc : 11 ≤ k
    · rw [lr_X7_addA_13, if_pos zc]
      have z := Int32.le_iff_toInt_le.mp zc
      have e0 : c = 0 := by omega
      subst e0
      exact ⟨by rw [tv, Nat.pow_zero, Nat.mod_one], fun _ _ => rfl⟩
    · have z := qm_lt zc
      obtain ⟨d, rfl⟩ : ∃ d, c = d + 1 := ⟨c - 1, by omega⟩
      have ei := qm_inc zc
      have g1 : (k + 1).toInt + d = 11 := by omega
      have g2 : d < fu := by omega
      have g3 : 0 ≤ (k + 1).toInt := by omega
      have ek : k.toNatClampNeg = k.toInt.toNat := rfl
      have en : (k + 1).toInt.toNat = k.toInt.toNat + 1 := by omega
      have g4 : (k.toInt.toNat : Int) < (k + 1).toInt := by omega
      have g5 : ∀ j : Nat, (j : Int) < k.toInt → (j : Int) < (k + 1).toInt ∧ j ≠ k.toInt.toNat := fun j hj => by omega
      rw [lr_X7_addA_13, if_neg zc, if_pos rfl]
      have q1 := qu_lt (f k.toNatClampNeg)
      have eL : un (cy + (((f k.toNatClampNeg).toInt64 &&& 4294967295) + ((f k.toNatClampNeg).toInt64 &&& 4294967295))) = un cy + (qu (f k.toNatClampNeg) + qu (f k.toNatClampNeg)) := by
        rw [un_add, un_add, un_lo]
        omega
      generalize (cy + (((f k.toNatClampNeg).toInt64 &&& 4294967295) + ((f k.toNatClampNeg).toInt64 &&& 4294967295))) = L at eL ⊢
      have h1 := un_hi L
      have h2 := un_lo32 L
      have g6 : un (L.toUInt64 >>> ((32 : Int32).toInt64.toUInt64 &&& Int64.toUInt64 63)).toInt64 ≤ 1 := by rw [h1, eL, qB_e]; omega
      obtain ⟨i1, i2⟩ := qv_addA fu d _ (k + 1) (upd f k.toNatClampNeg L.toInt32) g1 g2 g3 g6
      rw [ek] at i1 i2 eL ⊢
      rw [en] at i1
      have j1 := i2 k.toInt.toNat g4
      rw [upd_same] at j1
      have j2 : tv (upd f k.toInt.toNat L.toInt32) (k.toInt.toNat + 1) d = tv f (k.toInt.toNat + 1) d := tv_congr _ _ fun j hj _ => upd_ne _ _ (Nat.ne_of_gt hj)
      refine ⟨?_, fun j hj => ?_⟩
      · rw [tv, i1, j1, j2, h2, h1, tv, Nat.pow_succ, Nat.mul_comm (qB ^ d) qB]
        refine qa_mul (by rw [qB_e]; decide) (congrArg (· % qB ^ d) (Nat.add_assoc _ _ _)) ?_
        rw [eL, Nat.mul_add]
        omega
      · rw [i2 j (g5 j hj).1]
        exact upd_ne _ _ (g5 j hj).2
theorem qv_add2 (f : Nat → Int32) : tv (r_X7_addA 0 f) 0 11 = (tv f 0 11 + tv f 0 11) % qB ^ 11 := by
  have h := (qv_addA 12 11 (0 : Int64) (0 : Int32) f (by decide) (by decide) (by decide) (by decide)).1
  have e : (0 : Int32).toInt.toNat = 0 := rfl
  have e1 : un (0 : Int64) = 0 := rfl
  rw [e, e1, Nat.zero_add] at h
  unfold r_X7_addA
  rw [if_pos rfl, h]
/-! products -/
theorem tv_cut (f : Nat → Int32) (a b c m : Nat) : tv f m (a + (b + c)) / qB ^ a % qB ^ b = tv f (m + a) b := by
  have l1 := tv_lt f a m
  have l2 := tv_lt f b (m + a)
  rw [tv_split f (b + c) a m, Nat.add_mul_div_left _ _ (Nat.lt_of_le_of_lt (Nat.zero_le _) l1), Nat.div_eq_of_lt l1, Nat.zero_add, tv_split f c b (m + a), Nat.add_mul_mod_self_left, Nat.mod_eq_of_lt l2]
theorem tv_sh (f1 : Nat → Int32) : ∀ (c m : Nat) (u : Nat → Int32), m + c ≤ 11 → (∀ j : Nat, j < 11 → u j = f1 (8 + j)) → tv u m c = tv f1 (8 + m) c
  | 0, _, _, _, _ => rfl
  | c + 1, m, u, hm, hu => by
    have e : 8 + (m + 1) = 8 + m + 1 := rfl
    rw [tv, tv, hu m (by omega), tv_sh f1 c (m + 1) u (by omega) hu, e]
theorem qv_t35 (i : Int32) (f g : Nat → Int32) (kx : Int64 → (Nat → Int32) → (Nat → Int32) × (Nat → Int32)) (hi0 : 0 ≤ i.toInt) (hi1 : i.toInt < 11) : ∀ (fu c : Nat) (cy : Int64) (k : Int32) (f1 : Nat → Int32), k.toInt + c = 11 → c < fu → 0 ≤ k.toInt → un cy < qB →
    ∃ (cy2 : Int64) (f2 : Nat → Int32), lr_X7_times_35 i f g kx fu cy k f1 = kx cy2 f2 ∧ un cy2 < qB ∧ un cy2 * qB ^ c + tv f2 (i.toInt.toNat + k.toInt.toNat) c = un cy + qu (f i.toInt.toNat) * tv g k.toInt.toNat c + tv f1 (i.toInt.toNat + k.toInt.toNat) c ∧ ∀ j : Nat, j < i.toInt.toNat + k.toInt.toNat → f2 j = f1 j
  | 0, _, _, _, _, _, h, _, _ => absurd h (Nat.not_lt_zero _)
  | fu + 1, c, cy, k, f1, hc, hf, hk, c1 => by
    have e11 : (11 : Int32).toInt = 11 := rfl
    by_cases zc : 11 ≤ k
    · rw [lr_X7_times_35, if_pos zc]
      have z := Int32.le_iff_toInt_le.mp zc
      have e0 : c = 0 := by omega
      subst e0
      exact ⟨cy, f1, rfl, c1, by simp only [tv, Nat.pow_zero, Nat.mul_zero, Nat.mul_one, Nat.add_zero], fun _ _ => rfl⟩
    · have z := qm_lt zc
      obtain ⟨d, rfl⟩ : ∃ d, c = d + 1 := ⟨c - 1, by omega⟩
      have ei := qm_inc zc
      have g1 : (k + 1).toInt + d = 11 := by omega
      have g2 : d < fu := by omega
      have g3 : 0 ≤ (k + 1).toInt := by omega
      have ek : k.toNatClampNeg = k.toInt.toNat := rfl
      have ei2 : i.toNatClampNeg = i.toInt.toNat := rfl
      have eik : (i + k).toInt = i.toInt + k.toInt := by rw [Int32.toInt_add, Int.bmod_eq_of_le (by omega) (by omega)]
      have eikn : (i + k).toNatClampNeg = i.toInt.toNat + k.toInt.toNat := by
        show (i + k).toInt.toNat = _
        rw [eik]
        omega
      have en : (k + 1).toInt.toNat = k.toInt.toNat + 1 := by omega
      rw [lr_X7_times_35, if_neg zc, ek, ei2, eikn]
      have q1 := qu_lt (f i.toInt.toNat)
      have q2 := qu_lt (g k.toInt.toNat)
      have q3 := qu_lt (f1 (i.toInt.toNat + k.toInt.toNat))
      have m1 : qu (f i.toInt.toNat) * qu (g k.toInt.toNat) ≤ 4294967295 * 4294967295 := Nat.mul_le_mul (by omega) (by omega)
      rw [qB_e] at c1
      have eL : un (cy + ((((f i.toInt.toNat).toInt64 &&& 4294967295) * ((g k.toInt.toNat).toInt64 &&& 4294967295)) + ((f1 (i.toInt.toNat + k.toInt.toNat)).toInt64 &&& 4294967295))) = un cy + qu (f i.toInt.toNat) * qu (g k.toInt.toNat) + qu (f1 (i.toInt.toNat + k.toInt.toNat)) := by
        rw [un_add, un_add, un_mul, un_lo, un_lo, un_lo]
        generalize qu (f i.toInt.toNat) * qu (g k.toInt.toNat) = Z at m1 ⊢
        omega
      generalize (cy + ((((f i.toInt.toNat).toInt64 &&& 4294967295) * ((g k.toInt.toNat).toInt64 &&& 4294967295)) + ((f1 (i.toInt.toNat + k.toInt.toNat)).toInt64 &&& 4294967295))) = L at eL ⊢
      have h1 := un_hi L
      have h2 := un_lo32 L
      have g6 : un (L.toUInt64 >>> ((32 : Int32).toInt64.toUInt64 &&& Int64.toUInt64 63)).toInt64 < qB := by
        rw [h1, qB_e]
        have hl : un L < 18446744073709551616 := L.toBitVec.isLt
        omega
      obtain ⟨cy2, f2, i0, i1, i2, i3⟩ := qv_t35 i f g kx hi0 hi1 fu d _ (k + 1) (upd f1 (i.toInt.toNat + k.toInt.toNat) L.toInt32) g1 g2 g3 g6
      refine ⟨cy2, f2, i0, i1, ?_, fun j hj => ?_⟩
      · rw [en] at i2 i3
        have j1 := i3 (i.toInt.toNat + k.toInt.toNat) (by omega)
        rw [upd_same] at j1
        have j2 : tv (upd f1 (i.toInt.toNat + k.toInt.toNat) L.toInt32) (i.toInt.toNat + (k.toInt.toNat + 1)) d = tv f1 (i.toInt.toNat + (k.toInt.toNat + 1)) d := tv_congr _ _ fun j hj _ => upd_ne _ _ (by omega)
        have a1 : i.toInt.toNat + k.toInt.toNat + 1 = i.toInt.toNat + (k.toInt.toNat + 1) := by omega
        rw [tv, tv, tv, a1, j1, h2, Nat.pow_succ]
        rw [j2, h1] at i2
        have d1 : qB * (un L / qB) + un L % qB = un L := Nat.div_add_mod _ _
        have t1 : un cy2 * (qB ^ d * qB) + qB * tv f2 (i.toInt.toNat + (k.toInt.toNat + 1)) d = qB * (un cy2 * qB ^ d + tv f2 (i.toInt.toNat + (k.toInt.toNat + 1)) d) := by
          rw [Nat.mul_add, Nat.mul_comm qB (un cy2 * qB ^ d), Nat.mul_assoc]
        rw [i2, Nat.mul_add, Nat.mul_add] at t1
        have t2 : qB * (qu (f i.toInt.toNat) * tv g (k.toInt.toNat + 1) d) = qu (f i.toInt.toNat) * (qB * tv g (k.toInt.toNat + 1) d) := Nat.mul_left_comm _ _ _
        rw [Nat.mul_add]
        omega
      · rw [i3 j (by omega)]
        exact upd_ne _ _ (by omega)
theorem qv_t131 (f g : Nat → Int32) : ∀ (fu : Nat) (k : Int32) (f1 f2 : Nat → Int32), ((11 : Int32).toInt - k.toInt).toNat < fu → 0 ≤ k.toInt → (∀ j : Nat, (j : Int) < k.toInt → f2 j = f1 (8 + j)) → (lr_X7_times_131 f g fu k f1 f2).1 = f1 ∧ ∀ j : Nat, j < 11 → (lr_X7_times_131 f g fu k f1 f2).2 j = f1 (8 + j)
  | 0, _, _, _, h, _, _ => absurd h (Nat.not_lt_zero _)
  | fu + 1, k, f1, f2, h, hk, hf => by
    have e11 : (11 : Int32).toInt = 11 := rfl
    by_cases zc : 11 ≤ k
    · rw [lr_X7_times_131, if_pos zc]
      have z := Int32.le_iff_toInt_le.mp zc
      exact ⟨rfl, fun j hj => hf j (by omega)⟩
    · rw [lr_X7_times_131, if_neg zc]
      have ei := qm_inc zc
      have z := qm_lt zc
      have e8 : (8 : Int32).toInt = 8 := rfl
      have ek : k.toNatClampNeg = k.toInt.toNat := rfl
      have ek8 : (k + 8).toNatClampNeg = 8 + k.toInt.toNat := by
        show (k + 8).toInt.toNat = _
        rw [Int32.toInt_add, e8, Int.bmod_eq_of_le (by omega) (by omega)]
        omega
      refine qv_t131 f g fu (k + 1) f1 _ (qm_up zc h) (by omega) (fun j hj => ?_)
      by_cases e : j = k.toNatClampNeg
      · rw [e, upd_same, ek8, ek]
      · rw [upd_ne _ _ e]
        exact hf j (by omega)
theorem qa_t {a b c d e G X B : Nat} (h1 : c * X + a = d * G + b) : e + B * a + c * (B * X) = e + B * b + d * B * G := by
  have h : B * (c * X + a) = B * (d * G + b) := by rw [h1]
  rw [Nat.mul_add, Nat.mul_add] at h
  have t1 : B * (c * X) = c * (B * X) := Nat.mul_left_comm _ _ _
  have t2 : B * (d * G) = d * B * G := by rw [Nat.mul_left_comm, Nat.mul_assoc]
  omega
