/-- the first place -/
theorem plo (g : Nat → Int32) (S : sM) {n : Nat} (h1 : 2 ^ n ≤ tv g 0 11) (h2 : tv g 0 11 < 2 ^ (n + 1)) : ∀ (fu k : Nat), n ≤ k → k < 352 → k < fu → lf_X7_placeOf_4 g fu (Int32.ofNat k) S = Int32.ofNat n
  | 0, _, _, _, h => absurd h (Nat.not_lt_zero _)
  | fu + 1, k, hk, hk2, hf => by
    rw [lf_X7_placeOf_4]
    have hd := dgN g hk2
    by_cases e : k = n
    · subst e
      have hb : tv g 0 11 / 2 ^ k % 2 = 1 := by
        have : tv g 0 11 / 2 ^ k = 1 := Nat.div_eq_of_lt_le (by omega) (by rw [Nat.pow_succ] at h2; omega)
        rw [this]
      rw [hb] at hd
      rw [if_neg (fun z => by rw [z] at hd; exact absurd hd (by decide))]
    · have hb : tv g 0 11 / 2 ^ k = 0 := Nat.div_eq_of_lt (Nat.lt_of_lt_of_le h2 (Nat.pow_le_pow_right (by decide) (by omega)))
      rw [hb] at hd
      have z : r_X7_digitAt (Int32.ofNat k) g = 0 := Int32.toBitVec_inj.mp (BitVec.eq_of_toNat_eq hd)
      have en : Int32.ofNat k + (-1) = Int32.ofNat (k - 1) := by
        have := Int32.ofNat_add (k - 1) 1
        rw [Nat.sub_add_cancel (by omega)] at this
        rw [this, Int32.add_assoc]
        show Int32.ofNat (k - 1) + (1 + -1) = _
        rw [show (1 : Int32) + -1 = 0 by decide, Int32.add_zero]
      rw [if_pos z, en]
      exact plo g S h1 h2 fu (k - 1) (by omega) (by omega) (by omega)
theorem plo_v (g : Nat → Int32) (S : sM) {n : Nat} (h1 : 2 ^ n ≤ tv g 0 11) (h2 : tv g 0 11 < 2 ^ (n + 1)) (h3 : n < 352) : r_X7_placeOf g S = Int32.ofNat n := plo g S h1 h2 353 351 (by omega) (by decide) (by decide)
theorem siz_v (f : Nat → Int32) (S : sM) : tv (r_X7_sizeOf f S) 0 11 = (svN (tv f 0 11)).natAbs := by
  have h := tv_lt f 11 0
  have e : qB ^ 11 = 2 ^ 352 := by rw [qB_e]; decide +kernel
  have s := sg_v f
  have e10 : (10 : Int32).toNatClampNeg = 10 := rfl
  unfold r_X7_sizeOf
  rw [e10]
  by_cases c : 0 ≤ f 10
  · rw [if_pos c]
    have := s.mp c
    unfold svN
    rw [if_pos this]
    rfl
  · rw [if_neg c, qv_sum1]
    have q0 : tv (r_X7_quarterOf 0) 0 11 = 0 := (qv_qpos (q := 0) (by decide)).trans (by decide)
    rw [q0, e, Nat.zero_add]
    rw [e] at h
    have : ¬ tv f 0 11 < 2 ^ 351 := fun z => c (s.mpr z)
    unfold svN
    rw [if_neg this, Nat.mod_eq_of_lt (by omega)]
    generalize tv f 0 11 = v at h this ⊢
    omega
/-- height and digits of what has them, by the class's -/
def hgC (kd q u : Int32) : Nat := (f_X1_heightOf (f_X1_digitsOf (enc kd q u)) + 256).toInt.toNat
theorem hg_1 : vall (fun kd q u => decide (f_X2_hasHeight (enc kd q u) = 0) || (decide (2 ^ hgC kd q u ≤ (tS kd q).natAbs) && (decide ((tS kd q).natAbs < 2 ^ (hgC kd q u + 1)) && (decide (hgC kd q u < 350) && (decide (30 ≤ hgC kd q u) && (decide (f_X1_heightOf (f_X1_digitsOf (enc kd q u)) = Int32.ofNat (hgC kd q u) - 256) && decide (f_X1_firstDigits (f_X1_digitsOf (enc kd q u)) = Int32.ofInt (((tS kd q).natAbs / 2 ^ (hgC kd q u - 30) : Nat) : Int)))))))) = true := by decide +kernel
theorem hh_1 : vall (fun kd q u => decide (f_X2_hasHeight (enc kd q u) = if kd = 1 then 0 else if kd ≤ 4 then (if kd = 0 then (if q = 0 then 0 else 1) else 1) else 0) && decide (f_X2_hasWhole (enc kd q u) = if kd = 1 then 0 else if kd ≤ 4 then 1 else 0)) = true := by decide +kernel
theorem hh_v {kd q u : Int32} (h : vq kd q u) : f_X2_hasHeight (enc kd q u) = (if kd = 1 then 0 else if kd ≤ 4 then (if kd = 0 then (if q = 0 then 0 else 1) else 1) else 0) ∧ f_X2_hasWhole (enc kd q u) = if kd = 1 then 0 else if kd ≤ 4 then 1 else 0 := by
  have := Bool.and_eq_true_iff.mp (vall_e hh_1 h)
  exact ⟨of_decide_eq_true this.1, of_decide_eq_true this.2⟩
theorem hg_v2 {kd q u : Int32} (h : vq kd q u) (hh : ¬ f_X2_hasHeight (enc kd q u) = 0) : 2 ^ hgC kd q u ≤ (tS kd q).natAbs ∧ (tS kd q).natAbs < 2 ^ (hgC kd q u + 1) ∧ hgC kd q u < 350 ∧ 30 ≤ hgC kd q u ∧ f_X1_heightOf (f_X1_digitsOf (enc kd q u)) = Int32.ofNat (hgC kd q u) - 256 ∧ f_X1_firstDigits (f_X1_digitsOf (enc kd q u)) = Int32.ofInt (((tS kd q).natAbs / 2 ^ (hgC kd q u - 30) : Nat) : Int) := by
  rcases Bool.or_eq_true_iff.mp (vall_e hg_1 h) with e | e
  · exact absurd (of_decide_eq_true e) hh
  · simp only [Bool.and_eq_true, decide_eq_true_eq] at e
    exact e
/-- whether it is low, by the class's -/
theorem low_0 {a : Int32} {T : sM} (g0 : ¬ a < 0 ∧ ¬ 8 ≤ a) (hv : vq (T.1 a.toNatClampNeg) (T.2.1 a.toNatClampNeg) (T.2.2.1 a.toNatClampNeg)) (hh : ¬ f_X2_hasHeight (enc (T.1 a.toNatClampNeg) (T.2.1 a.toNatClampNeg) (T.2.2.1 a.toNatClampNeg)) = 0) : r_X7_isLow a T = (0, th 0 T) := by
  rw [(hh_v hv).1] at hh
  unfold r_X7_isLow r_X7_isUntold r_X7_isNought
  rw [nc0 g0, it0]
  by_cases h1 : T.1 a.toNatClampNeg = 1
  · rw [if_pos h1] at hh; exact absurd rfl hh
  · rw [if_neg h1] at hh ⊢
    by_cases h4 : T.1 a.toNatClampNeg ≤ 4
    · rw [if_pos h4] at hh ⊢
      rw [it0]
      by_cases h0 : T.1 a.toNatClampNeg = 0
      · rw [if_pos h0] at hh ⊢
        by_cases q0 : T.2.1 a.toNatClampNeg = 0
        · rw [if_pos q0] at hh; exact absurd rfl hh
        · rw [if_neg q0, it0, rfs0]
          try rfl
      · rw [if_neg h0, it0, rfs0]
        try rfl
    · rw [if_neg h4] at hh; exact absurd rfl hh
theorem low_2 {a : Int32} {T : sM} (g0 : ¬ a < 0 ∧ ¬ 8 ≤ a) (hv : vq (T.1 a.toNatClampNeg) (T.2.1 a.toNatClampNeg) (T.2.2.1 a.toNatClampNeg)) (hh : f_X2_hasHeight (enc (T.1 a.toNatClampNeg) (T.2.1 a.toNatClampNeg) (T.2.2.1 a.toNatClampNeg)) = 0) : r_X7_isLow a T = (1, th 2 T) := by
  rw [(hh_v hv).1] at hh
  unfold r_X7_isLow r_X7_isUntold r_X7_isNought
  rw [nc0 g0, it0]
  by_cases h1 : T.1 a.toNatClampNeg = 1
  · rw [if_pos h1, it1, rfs2]
    try rfl
  · rw [if_neg h1] at hh ⊢
    by_cases h4 : T.1 a.toNatClampNeg ≤ 4
    · rw [if_pos h4] at hh ⊢
      rw [it0]
      by_cases h0 : T.1 a.toNatClampNeg = 0
      · rw [if_pos h0] at hh ⊢
        by_cases q0 : T.2.1 a.toNatClampNeg = 0
        · rw [if_pos q0, it1, rfs2]
          try rfl
        · rw [if_neg q0] at hh; exact absurd hh (by decide)
      · rw [if_neg h0] at hh; exact absurd hh (by decide)
    · rw [if_neg h4, it1, rfs2]
      try rfl
theorem low_1 {a : Int32} (T : sM) (f0 : a < 0 ∨ 8 ≤ a) : r_X7_isLow a T = (1, th 1 T) := by
  unfold r_X7_isLow
  rw [nc1 f0, it1, rfs1, rfs1]
  (repeat' split) <;> rfl
/-! all digits of a quarter, of an endless one -/
def mkS (kd q u : Int32) : sM := (fun _ => kd, fun _ => q, fun _ => u, 0, 0, 0, 0)
theorem lf60 (c c' sz dn : Int32) (it : Int64) (T T' : sM) : ∀ (fu : Nat) (hi : Int32), lf_X7_digitsOf_60 c sz dn it fu hi T = lf_X7_digitsOf_60 c' sz dn it fu hi T'
  | 0, _ => rfl
  | fu + 1, hi => by
    rw [lf_X7_digitsOf_60, lf_X7_digitsOf_60, lf60 c c' sz dn it T T' fu (hi + 1)]
theorem dgo_e (c : Int32) (T : sM) : r_X7_digitsOf c T = r_X7_digitsOf 0 (mkS (T.1 c.toNatClampNeg) (T.2.1 c.toNatClampNeg) (T.2.2.1 c.toNatClampNeg)) := by
  unfold r_X7_digitsOf
  simp only [lf60 c 0 _ _ _ T (mkS (T.1 c.toNatClampNeg) (T.2.1 c.toNatClampNeg) (T.2.2.1 c.toNatClampNeg))]
  rfl
theorem dgo_1 : vall (fun kd q u => decide (1 < kd) || decide (r_X7_digitsOf 0 (mkS kd q u) = f_X1_digitsOf (enc kd q u))) = true := by decide +kernel
theorem dgo_v {c : Int32} {T : sM} (h : vq (T.1 c.toNatClampNeg) (T.2.1 c.toNatClampNeg) (T.2.2.1 c.toNatClampNeg)) (h1 : T.1 c.toNatClampNeg ≤ 1) : r_X7_digitsOf c T = f_X1_digitsOf (enc (T.1 c.toNatClampNeg) (T.2.1 c.toNatClampNeg) (T.2.2.1 c.toNatClampNeg)) := by
  rw [dgo_e]
  rcases Bool.or_eq_true_iff.mp (vall_e dgo_1 h) with e | e
  · exact absurd (of_decide_eq_true e) (qm_len h1)
  · exact of_decide_eq_true e
theorem told_1 : vall (fun kd q u => decide (f_X2_hasToldDigits (enc kd q u) = if kd ≤ 1 then 1 else 0)) = true := by decide +kernel
theorem told_v {kd q u : Int32} (h : vq kd q u) : f_X2_hasToldDigits (enc kd q u) = if kd ≤ 1 then 1 else 0 := of_decide_eq_true (vall_e told_1 h)
