/-! what is learnt of the model's checks, further on -/
theorem near_spec {S : sM} {a b : Int32} (hn : ¬ r_X7_areNear a b S = 0) : S.2.1 a.toNatClampNeg = S.2.1 b.toNatClampNeg ∧ ((S.1 a.toNatClampNeg = 0 ∧ ¬ S.1 b.toNatClampNeg ≤ 4) ∨ (S.1 b.toNatClampNeg = 0 ∧ ¬ S.1 a.toNatClampNeg ≤ 4)) := by
  unfold r_X7_areNear at hn
  generalize S.1 a.toNatClampNeg = ka at *
  generalize S.1 b.toNatClampNeg = kb at *
  generalize S.2.1 a.toNatClampNeg = qa at *
  generalize S.2.1 b.toNatClampNeg = qb at *
  (repeat' split at hn) <;> first | exact absurd rfl hn | exact ⟨by assumption, Or.inl ⟨by assumption, by assumption⟩⟩ | exact ⟨by assumption, Or.inr ⟨by assumption, by assumption⟩⟩
theorem vq_5 {kd q u : Int32} (h : vq kd q u) (hk : ¬ kd ≤ 4) (hq : q.toInt ≤ -4) : -32 ≤ q.toInt ∧ q.toInt ≤ -5 := by
  rcases h with ⟨rfl, a1, a2, a3⟩ | ⟨rfl, a1, a2⟩ | ⟨rfl, a1, a2, a3⟩ | ⟨rfl, a1, a2, a3⟩ | ⟨rfl, a1, a2, a3⟩ | ⟨rfl, a1, a2, a3⟩ | ⟨rfl, a1, a2, a3⟩
  · exact absurd (by decide) hk
  · exact absurd (by decide) hk
  · exact absurd (by decide) hk
  · exact absurd (by decide) hk
  · exact absurd (by decide) hk
  · exact ⟨a1, a2⟩
  · omega
theorem qx_near {S : sM} {a b : Int32} (h : IM S) (ha : vp_in a 8) (hb : vp_in b 8) (hn : ¬ r_X7_areNear a b S = 0) (hq : (S.2.1 a.toNatClampNeg) ≤ (-4)) : vp_in (((-(S.2.1 a.toNatClampNeg)) - 5) / 4) 7 := by
  have h1 := h _ (vp_lt ha)
  have h2 := h _ (vp_lt hb)
  rw [Int32.le_iff_toInt_le] at hq
  have e4 : (-4 : Int32).toInt = -4 := rfl
  have hs := near_spec hn
  rw [← hs.1] at h2
  generalize S.2.1 a.toNatClampNeg = qa at *
  have key : -32 ≤ qa.toInt ∧ qa.toInt ≤ -5 := by
    rcases hs.2 with ⟨_, k1⟩ | ⟨_, k1⟩
    · exact vq_5 h2 k1 (by omega)
    · exact vq_5 h1 k1 (by omega)
  have e5 : (5 : Int32).toInt = 5 := rfl
  have e6 : (4 : Int32).toInt = 4 := rfl
  have n1 : (-qa).toInt = -qa.toInt := by
    rw [Int32.toInt_neg, Int.bmod_eq_of_le (by omega) (by omega)]
  have n2 : ((-qa) - 5).toInt = -qa.toInt - 5 := by
    rw [Int32.toInt_sub, n1, e5, Int.bmod_eq_of_le (by omega) (by omega)]
  rw [vp_in_iff, Int32.toInt_div, n2, e6, Int.tdiv_eq_ediv_of_nonneg (by omega), Int.bmod_eq_of_le (by omega) (by omega)]
  omega
theorem same_ref {i a : Int32} {S : sM} : (r_X7_isRefused i a S).2.1 = S.1 ∧ (r_X7_isRefused i a S).2.2.1 = S.2.1 ∧ (r_X7_isRefused i a S).2.2.2.1 = S.2.2.1 := ref_1 i a S
theorem im_none {a b : Int32} {S : sM} (h : IM S) : IM (r_X7_areNone a b S).2 := by
  unfold r_X7_areNone
  (repeat' split) <;> exact im_ref h
theorem qx_none {a b : Int32} {S : sM} (h : (r_X7_areNone a b S).1 = 0) : vp_in a 8 ∧ vp_in b 8 := by
  unfold r_X7_areNone at h
  by_cases e1 : f_X7_isNoCell a = 0
  · rw [if_pos e1] at h
    by_cases e2 : f_X7_isNoCell b = 0
    · exact ⟨qx_cell e1, qx_cell e2⟩
    · rw [if_neg e2] at h
      exact absurd h (qx_1 (a := 0) (S := S))
  · rw [if_neg e1] at h
    exact absurd h (qx_1 (a := 0) (S := S))
theorem im_kind {a : Int32} {S : sM} (h : IM S) : IM (r_X7_kind a S).2 := by
  unfold r_X7_kind
  (repeat' split) <;> exact im_ref h
theorem im_low {a : Int32} {S : sM} (h : IM S) : IM (r_X7_isLow a S).2 := by
  unfold r_X7_isLow
  (repeat' split) <;> exact im_ref h
theorem im_unkept {a : Int32} {S : sM} (h : IM S) : IM (r_X7_isUnkept a S).2 := by
  unfold r_X7_isUnkept
  (repeat' split) <;> exact im_ref h
theorem qx_isLow {a : Int32} {S : sM} (h : (r_X7_isLow a S).1 = 0) : vp_in a 8 := by
  unfold r_X7_isLow at h
  by_cases e1 : f_X7_isNoCell a = 0
  · exact qx_cell e1
  · simp only [e1, if_false] at h
    refine absurd ?_ e1
    revert h
    (repeat' split) <;> exact fun h => qx_ref h
theorem qx_isUnkept {a : Int32} {S : sM} (h : (r_X7_isUnkept a S).1 = 0) : vp_in a 8 := by
  unfold r_X7_isUnkept at h
  by_cases e1 : f_X7_isNoCell a = 0
  · exact qx_cell e1
  · simp only [e1, if_false] at h
    refine absurd ?_ e1
    revert h
    (repeat' split) <;> exact fun h => qx_ref h
