/-! where the true numbers' rows are had by; the place of a row's greatest digit -/
theorem tp_2 {kd q : Int32} (h : tpre kd q) (e : kd = 2) : vp_in (q + 160) 321 := by
  obtain ⟨h1, h2⟩ := h.1 e
  have e3 : (160 : Int32).toInt = 160 := rfl
  rw [vp_in_iff, Int32.toInt_add, e3, Int.bmod_eq_of_le (by omega) (by omega)]
  omega
theorem tp_3 {kd q : Int32} (h : tpre kd q) (e : kd = 3) : vp_in (q + 160) 321 := by
  obtain ⟨h1, h2⟩ := h.2.1 e
  have e3 : (160 : Int32).toInt = 160 := rfl
  rw [vp_in_iff, Int32.toInt_add, e3, Int.bmod_eq_of_le (by omega) (by omega)]
  omega
theorem tp_4 {kd q : Int32} (h : tpre kd q) (e : kd = 4) : -3 ≤ q.toInt ∧ q.toInt ≤ 160 := h.2.2 e
def tq (how q : Int32) : Prop := tpre (if how = 0 then 0 else how + 1) q
theorem tq_0 {how q : Int32} (h : tq how q) (e : how = 0) : tpre 0 q := by
  rw [tq, if_pos e] at h
  exact h
theorem tq_1 {how q : Int32} (h : tq how q) (e : ¬ how = 0) : tpre (how + 1) q := by
  rw [tq, if_neg e] at h
  exact h
/-- the row has a digit at a place from 0 to k -/
def npl (f : qR) (k : Int32) : Prop := k.toInt ≤ 351 ∧ ∃ p : Int32, 0 ≤ p.toInt ∧ p.toInt ≤ k.toInt ∧ ¬ r_X7_digitAt p f = 0
theorem pl_z {f : qR} {k : Int32} (h : npl f k) : ¬ k / 32 < 0 := by
  obtain ⟨_, p, h1, h2, _⟩ := h
  exact qm_pl0 (by omega)
theorem pl_lt {f : qR} {k : Int32} (h : npl f k) (c : r_X7_digitAt k f = 0) : 0 < k.toInt ∧ (k + -1).toInt = k.toInt - 1 := by
  obtain ⟨h0, p, h1, h2, h3⟩ := h
  have hk : 0 ≤ k.toInt := by omega
  have hz : ¬ k < 0 := by
    rw [Int32.lt_iff_toInt_lt]
    have e0 : (0 : Int32).toInt = 0 := rfl
    omega
  refine ⟨?_, qm_decI hz⟩
  rcases Int.lt_or_eq_of_le hk with h4 | h4
  · exact h4
  · exfalso
    have e : p = k := Int32.toInt_inj.mp (by omega)
    exact h3 (e ▸ c)
theorem pl_in {f : qR} {k : Int32} (h : npl f k) (c : r_X7_digitAt k f = 0) : npl f (k + -1) := by
  have h4 := pl_lt h c
  obtain ⟨h0, p, h1, h2, h3⟩ := h
  refine ⟨by omega, p, h1, ?_, h3⟩
  rcases Int.lt_or_eq_of_le h2 with h5 | h5
  · omega
  · exfalso
    have e : p = k := Int32.toInt_inj.mp h5
    exact h3 (e ▸ c)
theorem pl_dn {f : qR} {k : Int32} {fu : Nat} (h : npl f k) (c : r_X7_digitAt k f = 0) (z : (k.toInt + 1).toNat < fu + 1) : ((k + -1).toInt + 1).toNat < fu := by
  have h4 := pl_lt h c
  omega
