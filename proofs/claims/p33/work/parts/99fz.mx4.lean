/-! heights, the search in a series -/
def hgt (f : qR) : Prop := ∃ p : Int32, 30 ≤ p.toInt ∧ p.toInt ≤ 351 ∧ ¬ r_X7_digitAt p f = 0
def IH (S : sM) : Prop := ∀ c : Int32, vp_in c 8 → r_X7_isUntold c S = 0 → r_X7_isNought c S = 0 → ∀ S0, hgt (r_X7_sizeOf (r_X7_trueOf (S.1 c.toNatClampNeg) (S.2.1 c.toNatClampNeg) S0) S0)
theorem hg_npl {f : qR} (h : hgt f) : npl f 351 := by
  obtain ⟨p, h1, h2, h3⟩ := h
  exact ⟨by decide, p, by omega, by have e : (351 : Int32).toInt = 351 := rfl; omega, h3⟩
theorem hg_pl {f : qR} {S : sM} {p : Int32} (h0 : 0 ≤ p.toInt) (h3 : ¬ r_X7_digitAt p f = 0) : ∀ (fu : Nat) (k : Int32), p.toInt ≤ k.toInt → k.toInt ≤ 351 → (k.toInt + 1).toNat < fu → p.toInt ≤ (lf_X7_placeOf_4 f fu k S).toInt ∧ (lf_X7_placeOf_4 f fu k S).toInt ≤ 351 ∧ ¬ r_X7_digitAt (lf_X7_placeOf_4 f fu k S) f = 0
  | 0, _, _, _, z => absurd z (Nat.not_lt_zero _)
  | fu + 1, k, h1, h2, z => by
    rw [lf_X7_placeOf_4]
    by_cases c : r_X7_digitAt k f = 0
    · rw [if_pos c]
      have hn : npl f k := ⟨h2, p, h0, h1, h3⟩
      obtain ⟨_, p', _, _, _⟩ := pl_in hn c
      have h4 := pl_lt hn c
      refine hg_pl h0 h3 fu (k + -1) ?_ (by omega) (pl_dn hn c z)
      rcases Int.lt_or_eq_of_le h1 with h5 | h5
      · omega
      · exfalso
        have e : p = k := Int32.toInt_inj.mp h5
        exact h3 (e ▸ c)
    · rw [if_neg c]
      exact ⟨h1, h2, c⟩
theorem hg_place {f : qR} (S : sM) (h : hgt f) : 30 ≤ (r_X7_placeOf f S).toInt ∧ (r_X7_placeOf f S).toInt ≤ 351 := by
  obtain ⟨p, h1, h2, h3⟩ := h
  have e : (351 : Int32).toInt = 351 := rfl
  have h4 := hg_pl (S := S) (by omega) h3 353 351 (by omega) (by omega) (by decide)
  exact ⟨Int.le_trans h1 h4.1, h4.2.1⟩
theorem hg_30 {f : qR} {S : sM} (h : hgt f) : 0 ≤ (r_X7_placeOf f S - 30).toInt ∧ (r_X7_placeOf f S - 30).toInt ≤ 1000 := by
  have h4 := hg_place S h
  have e : (30 : Int32).toInt = 30 := rfl
  rw [Int32.toInt_sub, e, Int.bmod_eq_of_le (by omega) (by omega)]
  omega
def same3 (S S' : sM) : Prop := S'.1 = S.1 ∧ S'.2.1 = S.2.1 ∧ S'.2.2.1 = S.2.2.1
theorem s3_r (S : sM) : same3 S S := ⟨rfl, rfl, rfl⟩
theorem s3_ref (i a : Int32) (S : sM) : same3 S (r_X7_isRefused i a S).2 := ref_1 i a S
theorem s3_low (a : Int32) (S : sM) : same3 S (r_X7_isLow a S).2 := by
  unfold r_X7_isLow
  (repeat' split) <;> exact s3_ref _ _ _
theorem im_s {S S' : sM} (e : same3 S S') (h : IM S) : IM S' := im_kind0 h e.1 e.2.1 e.2.2
theorem ih_s {S S' : sM} (e : same3 S S') (h : IH S) : IH S' := fun c hc h1 h2 S0 => by
  have g1 : r_X7_isUntold c S = 0 := by
    rw [← h1]
    unfold r_X7_isUntold
    rw [e.1]
  have g2 : r_X7_isNought c S = 0 := by
    rw [← h2]
    unfold r_X7_isNought
    rw [e.1, e.2.1]
  rw [e.1, e.2.1]
  exact h c hc g1 g2 S0
theorem qx_low2 {a : Int32} {S : sM} (h : (r_X7_isLow a S).1 = 0) : r_X7_isUntold a S = 0 ∧ r_X7_isNought a S = 0 := by
  have h8 := qx_isLow h
  unfold r_X7_isLow at h
  have e1 : f_X7_isNoCell a = 0 := by
    revert h
    (repeat' split) <;> first | exact fun h => (by assumption) | exact fun h => qx_ref h
  rw [if_pos e1] at h
  by_cases e2 : r_X7_isUntold a S = 0
  · rw [if_pos e2] at h
    by_cases e3 : r_X7_isNought a S = 0
    · exact ⟨e2, e3⟩
    · rw [if_neg e3] at h
      exact absurd h qx_2
  · rw [if_neg e2] at h
    exact absurd h qx_2
theorem ih_low {a : Int32} {S : sM} (h : IH S) (h8 : vp_in a 8) (hz : (r_X7_isLow a S).1 = 0) (S0 : sM) : hgt (r_X7_sizeOf (r_X7_trueOf ((r_X7_isLow a S).2.1 a.toNatClampNeg) ((r_X7_isLow a S).2.2.1 a.toNatClampNeg) S0) S0) := by
  obtain ⟨e1, e2, e3⟩ := s3_low a S
  rw [e1, e2]
  obtain ⟨g1, g2⟩ := qx_low2 hz
  exact h a h8 g1 g2 S0
/-! the search -/
theorem tg_4 : ∀ j, j < 4 → -160 ≤ (t_le j).toInt ∧ (t_gr j).toInt ≤ 160 ∧ (t_le j).toInt < (t_gr j).toInt ∧ (j = 3 → -3 ≤ (t_le j).toInt) := by decide
theorem tq_c {how q : Int32} (hw : vp_in how 4) (h1 : (t_le how.toNatClampNeg).toInt ≤ q.toInt) (h2 : q.toInt ≤ (t_gr how.toNatClampNeg).toInt) : tq how q := by
  obtain ⟨a1, a2, a3, a4⟩ := tg_4 _ (vp_lt hw)
  rw [tq]
  by_cases e : how = 0
  · rw [if_pos e]
    exact ⟨fun e => absurd e (by decide), fun e => absurd e (by decide), fun e => absurd e (by decide)⟩
  · rw [if_neg e]
    refine ⟨fun _ => ⟨by omega, by omega⟩, fun _ => ⟨by omega, by omega⟩, fun e4 => ⟨?_, by omega⟩⟩
    have e5 : how = 3 := by
      have : how = how + 1 - 1 := by rw [Int32.add_sub_cancel]
      rw [this, e4]
      rfl
    have := a4 (by rw [e5]; rfl)
    omega
theorem tq_of {how q : Int32} {S : sM} (hw : vp_in how 4) (h : ¬ r_X7_isOf how q S = 0) : tq how q := by
  rw [r_X7_isOf] at h
  obtain ⟨h1, h2⟩ := qx_in h
  rw [Int32.lt_iff_toInt_lt] at h1 h2
  exact tq_c hw (by omega) (by omega)
theorem tq_12 {q : Int32} {S : sM} (h : ¬ r_X7_isOf 2 q S = 0) : tq 1 q := by
  rw [r_X7_isOf] at h
  obtain ⟨h1, h2⟩ := qx_in h
  rw [Int32.lt_iff_toInt_lt] at h1 h2
  have e1 : (t_le (2 : Int32).toNatClampNeg).toInt = -128 := rfl
  have e2 : (t_gr (2 : Int32).toNatClampNeg).toInt = 144 := rfl
  have e3 : (t_le (1 : Int32).toNatClampNeg).toInt = -160 := rfl
  have e4 : (t_gr (1 : Int32).toNatClampNeg).toInt = 160 := rfl
  exact tq_c (vp_d (by decide)) (by omega) (by omega)
def ls_I (how fr to : Int32) : Prop := (t_le how.toNatClampNeg).toInt ≤ fr.toInt ∧ fr.toInt ≤ to.toInt ∧ to.toInt ≤ (t_gr how.toNatClampNeg).toInt + 1
theorem ls_0 {how : Int32} (hw : vp_in how 4) : ls_I how (t_le how.toNatClampNeg) (t_gr how.toNatClampNeg + 1) := by
  have h : ∀ j, j < 4 → (t_le j).toInt ≤ (t_gr j + 1).toInt ∧ (t_gr j + 1).toInt ≤ (t_gr j).toInt + 1 := by decide
  obtain ⟨h1, h2⟩ := h _ (vp_lt hw)
  exact ⟨Int.le_refl _, h1, h2⟩
theorem ls_f0 {how : Int32} (hw : vp_in how 4) : 0 < 11 ∧ ((t_gr how.toNatClampNeg + 1).toInt - (t_le how.toNatClampNeg).toInt).toNat < 2 ^ (11 - 1) := by
  have h : ∀ j, j < 4 → ((t_gr j + 1).toInt - (t_le j).toInt).toNat < 2 ^ (11 - 1) := by decide
  exact ⟨by decide, h _ (vp_lt hw)⟩
theorem fd_2 : (List.range 801).all (fun j => decide ((f_J9_floorDiv_7cf53 (Int32.ofNat j - 400) 2).toInt = ((j : Int) - 400) / 2)) = true := by decide +kernel
theorem fd_q {x : Int32} (h1 : -400 ≤ x.toInt) (h2 : x.toInt ≤ 400) : (f_J9_floorDiv_7cf53 x 2).toInt = x.toInt / 2 := by
  have h := List.all_eq_true.mp fd_2 (x.toInt + 400).toNat (List.mem_range.mpr (by omega))
  have e : Int32.ofNat (x.toInt + 400).toNat - 400 = x := by
    apply Int32.toInt_inj.mp
    have es : Int32.size = 4294967296 := rfl
    have e4 : (400 : Int32).toInt = 400 := rfl
    have e5 : (Int32.ofNat (x.toInt + 400).toNat).toInt = x.toInt + 400 := by
      rw [Int32.toInt_ofNat', Int.bmod_eq_of_le (by omega) (by omega)]
      omega
    rw [Int32.toInt_sub, e5, e4, Int.bmod_eq_of_le (by omega) (by omega)]
    omega
  rw [e] at h
  have h3 := of_decide_eq_true h
  rw [h3]
  omega
theorem ls_m {how fr to : Int32} (hw : vp_in how 4) (h : ls_I how fr to) (c : ¬ to ≤ fr) : (f_J9_floorDiv_7cf53 (fr + to) 2).toInt = (fr.toInt + to.toInt) / 2 ∧ fr.toInt < to.toInt := by
  obtain ⟨a1, a2, a3, a4⟩ := tg_4 _ (vp_lt hw)
  obtain ⟨h1, h2, h3⟩ := h
  rw [Int32.le_iff_toInt_le] at c
  have e : (fr + to).toInt = fr.toInt + to.toInt := by
    rw [Int32.toInt_add, Int.bmod_eq_of_le (by omega) (by omega)]
  rw [fd_q (by omega) (by omega), e]
  exact ⟨rfl, by omega⟩
theorem ls_at {how fr to : Int32} (hw : vp_in how 4) (h : ls_I how fr to) (c : ¬ to ≤ fr) : tq how (f_J9_floorDiv_7cf53 (fr + to) 2) := by
  have hm := ls_m hw h c
  obtain ⟨h1, h2, h3⟩ := h
  exact tq_c hw (by omega) (by omega)
theorem ls_p1 {how fr to : Int32} (hw : vp_in how 4) (h : ls_I how fr to) (c : ¬ to ≤ fr) : (f_J9_floorDiv_7cf53 (fr + to) 2 + 1).toInt = (fr.toInt + to.toInt) / 2 + 1 := by
  have hm := ls_m hw h c
  obtain ⟨a1, a2, a3, a4⟩ := tg_4 _ (vp_lt hw)
  obtain ⟨h1, h2, h3⟩ := h
  have e1 : (1 : Int32).toInt = 1 := rfl
  rw [Int32.toInt_add, e1, hm.1, Int.bmod_eq_of_le (by omega) (by omega)]
theorem ls_iu {how fr to : Int32} (hw : vp_in how 4) (h : ls_I how fr to) (c : ¬ to ≤ fr) : ls_I how (f_J9_floorDiv_7cf53 (fr + to) 2 + 1) to := by
  have hm := ls_m hw h c
  have hp := ls_p1 hw h c
  obtain ⟨h1, h2, h3⟩ := h
  exact ⟨by omega, by omega, h3⟩
theorem ls_id {how fr to : Int32} (hw : vp_in how 4) (h : ls_I how fr to) (c : ¬ to ≤ fr) : ls_I how fr (f_J9_floorDiv_7cf53 (fr + to) 2) := by
  have hm := ls_m hw h c
  obtain ⟨h1, h2, h3⟩ := h
  exact ⟨h1, by omega, by omega⟩
theorem ls_2 {n fu : Nat} (hn : 0 < n) (z : 0 < fu + 1 ∧ n < 2 ^ (fu + 1 - 1)) {m : Nat} (hm : m ≤ n / 2) : 0 < fu ∧ m < 2 ^ (fu - 1) := by
  have z2 : n < 2 ^ fu := z.2
  rcases Nat.eq_zero_or_pos fu with rfl | hf
  · rw [Nat.pow_zero] at z2
    omega
  · refine ⟨hf, ?_⟩
    have e : (2 : Nat) ^ fu = 2 * 2 ^ (fu - 1) := by
      rw [← Nat.pow_succ']
      congr 1
      omega
    omega
theorem ls_up {how fr to : Int32} {fu : Nat} (hw : vp_in how 4) (h : ls_I how fr to) (c : ¬ to ≤ fr) (z : 0 < fu + 1 ∧ (to.toInt - fr.toInt).toNat < 2 ^ (fu + 1 - 1)) : 0 < fu ∧ (to.toInt - (f_J9_floorDiv_7cf53 (fr + to) 2 + 1).toInt).toNat < 2 ^ (fu - 1) := by
  have hm := ls_m hw h c
  have hp := ls_p1 hw h c
  exact ls_2 (by omega) z (by omega)
theorem ls_dn {how fr to : Int32} {fu : Nat} (hw : vp_in how 4) (h : ls_I how fr to) (c : ¬ to ≤ fr) (z : 0 < fu + 1 ∧ (to.toInt - fr.toInt).toNat < 2 ^ (fu + 1 - 1)) : 0 < fu ∧ ((f_J9_floorDiv_7cf53 (fr + to) 2).toInt - fr.toInt).toNat < 2 ^ (fu - 1) := by
  have hm := ls_m hw h c
  exact ls_2 (by omega) z (by omega)
/-- from q to the last one of a series -/
def rs_I (how q to : Int32) : Prop := (t_le how.toNatClampNeg).toInt ≤ q.toInt ∧ to.toInt ≤ (t_gr how.toNatClampNeg).toInt
theorem rs_0 {how q to : Int32} {S : sM} (h : ¬ r_X7_isOf how q S = 0) (h' : ¬ r_X7_isOf how to S = 0) : rs_I how q to := by
  rw [r_X7_isOf] at h h'
  obtain ⟨h1, h2⟩ := qx_in h
  obtain ⟨h3, h4⟩ := qx_in h'
  rw [Int32.lt_iff_toInt_lt] at h1 h4
  exact ⟨by omega, by omega⟩
theorem rs_1 {how q to : Int32} (hw : vp_in how 4) (h : rs_I how q to) (c : ¬ to ≤ q) : (q + 1).toInt = q.toInt + 1 ∧ tq how q ∧ tq how (q + 1) ∧ rs_I how (q + 1) to := by
  obtain ⟨a1, a2, a3, a4⟩ := tg_4 _ (vp_lt hw)
  obtain ⟨h1, h2⟩ := h
  rw [Int32.le_iff_toInt_le] at c
  have e1 : (1 : Int32).toInt = 1 := rfl
  have e : (q + 1).toInt = q.toInt + 1 := by
    rw [Int32.toInt_add, e1, Int.bmod_eq_of_le (by omega) (by omega)]
  exact ⟨e, tq_c hw h1 (by omega), tq_c hw (by omega) (by omega), by omega, h2⟩
theorem rs_f {how q to : Int32} (hw : vp_in how 4) (h : rs_I how q to) : (to.toInt - q.toInt).toNat < 322 := by
  obtain ⟨a1, a2, a3, a4⟩ := tg_4 _ (vp_lt hw)
  obtain ⟨h1, h2⟩ := h
  omega
