/-! the digest -/
theorem dg_208 {S : sX} {T : sM} {c : Int32} {st : Int64} (hb : ∀ h : Int32, ¬ h < 0 → ¬ 3 < h → (r_X5_before h c S).toInt64 = (r_X7_before h c T).1.toInt64) : ∀ (fu fv : Nat) (d : Int64) (h : Int32), ¬ h < 0 → ((4 : Int32).toInt - h.toInt).toNat < fu → ((4 : Int32).toInt - h.toInt).toNat < fv → lr_X5_digestCell_208 st c fu d h S = (lf_X7_digest_192 c fv d h T).1
  | 0, _, _, _, _, z, _ => absurd z (Nat.not_lt_zero _)
  | _ + 1, 0, _, _, _, _, z => absurd z (Nat.not_lt_zero _)
  | fu + 1, fv + 1, d, h, h0, z1, z2 => by
    rw [lr_X5_digestCell_208, lf_X7_digest_192]
    have e3 : (3 : Int32).toInt = 3 := rfl
    have e4 : (4 : Int32).toInt = 4 := rfl
    by_cases c4 : 4 ≤ h
    · have c3 : 3 < h := by
        rw [Int32.lt_iff_toInt_lt]
        rw [Int32.le_iff_toInt_le] at c4
        omega
      rw [if_pos c3, if_pos c4]
    · have c3 : ¬ 3 < h := by
        rw [Int32.lt_iff_toInt_lt]
        rw [Int32.le_iff_toInt_le] at c4
        omega
      rw [if_neg c3, if_neg c4, hb h h0 c3]
      exact dg_208 hb fu fv _ (h + 1) (qm_pos h0 c4) (qm_up c4 z1) (qm_up c4 z2)
theorem dg_74 {S : sX} {T : sM} (hs : r_X5_isSound S = 1) (hh : ∀ w : Int32, ¬ w < 0 → ¬ 4 < w → (r_X5_house w S).toInt64 = (r_X7_house w T).1.toInt64) : ∀ (fu fv : Nat) (d : Int64) (w : Int32), ¬ w < 0 → ((5 : Int32).toInt - w.toInt).toNat < fu → ((5 : Int32).toInt - w.toInt).toNat < fv → lr_X5_digest_74 fu d w S = (lf_X7_digest_274 fv d w T).1 * 31 + 1
  | 0, _, _, _, _, z, _ => absurd z (Nat.not_lt_zero _)
  | _ + 1, 0, _, _, _, _, z => absurd z (Nat.not_lt_zero _)
  | fu + 1, fv + 1, d, w, h0, z1, z2 => by
    rw [lr_X5_digest_74, lf_X7_digest_274]
    have e3 : (4 : Int32).toInt = 4 := rfl
    have e4 : (5 : Int32).toInt = 5 := rfl
    by_cases c4 : 5 ≤ w
    · have c3 : 4 < w := by
        rw [Int32.lt_iff_toInt_lt]
        rw [Int32.le_iff_toInt_le] at c4
        omega
      rw [if_pos c3, if_pos c4, hs, if_neg (by decide)]
      rfl
    · have c3 : ¬ 4 < w := by
        rw [Int32.lt_iff_toInt_lt]
        rw [Int32.le_iff_toInt_le] at c4
        omega
      rw [if_neg c3, if_neg c4, hh w h0 c3]
      exact dg_74 hs hh fu fv _ (w + 1) (qm_pos h0 c4) (qm_up c4 z1) (qm_up c4 z2)
theorem dg_38 {S : sX} {T : sM} {i : Int32} {kx : Int64 → sX → Int64} (ho : ∀ j : Int32, vp_in j 8 → (r_X5_order i j S).toInt64 = (r_X7_order i j T).1.toInt64) : ∀ (fu : Nat) (d : Int64) (j : Int32), ¬ j < 0 → ((8 : Int32).toInt - j.toInt).toNat < fu → lr_X5_digest_38 i kx fu d j S = kx (lf_X7_digest_238 i fu d j T).1 S
  | 0, _, _, _, z => absurd z (Nat.not_lt_zero _)
  | fu + 1, d, j, h0, z => by
    rw [lr_X5_digest_38, lf_X7_digest_238]
    by_cases c : 8 ≤ j
    · rw [if_pos c, if_pos c]
    · rw [if_neg c, if_neg c, ho j (qm_in8 h0 c)]
      exact dg_38 ho fu _ (j + 1) (qm_pos h0 c) (qm_up c z)
theorem dg_27 {S : sX} {T : sM} (ho : ∀ i j : Int32, vp_in i 8 → vp_in j 8 → (r_X5_order i j S).toInt64 = (r_X7_order i j T).1.toInt64) : ∀ (fu : Nat) (d : Int64) (i : Int32), ¬ i < 0 → ((8 : Int32).toInt - i.toInt).toNat < fu → lr_X5_digest_27 fu d i S = lr_X5_digest_74 6 (lf_X7_digest_227 fu d i T).1 0 S
  | 0, _, _, _, z => absurd z (Nat.not_lt_zero _)
  | fu + 1, d, i, h0, z => by
    rw [lr_X5_digest_27, lf_X7_digest_227]
    by_cases c : 8 ≤ i
    · rw [if_pos c, if_pos c]
    · have i8 := qm_in8 h0 c
      have e1 := qm_inc c
      have e8 : (8 : Int32).toInt = 8 := rfl
      have e0 : (0 : Int32).toInt = 0 := rfl
      have h0' := h0
      rw [Int32.lt_iff_toInt_lt] at h0'
      rw [if_neg c, if_neg c, dg_38 (T := T) (fun j hj => ho i j i8 hj) 9 d (i + 1) (qm_pos h0 c) (by omega)]
      exact dg_27 ho fu _ (i + 1) (qm_pos h0 c) (qm_up c z)
theorem dg_6 {S : sX} {T : sM} (hd : ∀ (d : Int64) (i : Int32), vp_in i 8 → lf_X7_digest_6 9 0 0 T = lf_X7_digest_6 9 0 0 T → ∃ D : Int64, r_X5_digestCell d i S = D ∧ ∀ fu : Nat, lf_X7_digest_6 (fu + 1) d i T = lf_X7_digest_6 fu D (i + 1) T) : ∀ (fu : Nat) (d : Int64) (i : Int32), ¬ i < 0 → ((8 : Int32).toInt - i.toInt).toNat < fu → lr_X5_digest_6 fu d i S = lr_X5_digest_27 9 (lf_X7_digest_6 fu d i T).1 0 S
  | 0, _, _, _, z => absurd z (Nat.not_lt_zero _)
  | fu + 1, d, i, h0, z => by
    by_cases c : 8 ≤ i
    · rw [lr_X5_digest_6, lf_X7_digest_6, if_pos c, if_pos c]
    · obtain ⟨D, e1, e2⟩ := hd d i (qm_in8 h0 c) rfl
      rw [lr_X5_digest_6, if_neg c, e1, e2 fu]
      exact dg_6 hd fu _ (i + 1) (qm_pos h0 c) (qm_up c z)
