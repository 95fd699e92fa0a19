/-! acts side by side -/
theorem rfs0 (T : sM) : r_X7_isRefused 0 0 T = (0, th 0 T) := by
  unfold r_X7_isRefused
  rw [if_pos rfl, if_pos rfl]
  rfl
theorem rfs1 (x : Int32) (T : sM) : r_X7_isRefused 1 x T = (1, th 1 T) := by
  unfold r_X7_isRefused
  rw [if_neg (by decide)]
  rfl
theorem rfs2 (T : sM) : r_X7_isRefused 0 1 T = (1, th 2 T) := by
  unfold r_X7_isRefused
  rw [if_pos rfl, if_neg (by decide)]
  rfl
theorem nc0 {c : Int32} (h : ¬ c < 0 ∧ ¬ 8 ≤ c) : f_X7_isNoCell c = 0 := (nc_iff c).mpr h
theorem nc1 {c : Int32} (h : c < 0 ∨ 8 ≤ c) : f_X7_isNoCell c = 1 := by
  rcases bz_X7_isNoCell c with e | e
  · obtain ⟨h1, h2⟩ := (nc_iff c).mp e
    exact absurd h (fun z => z.elim h1 h2)
  · exact e
theorem in8 {c : Int32} (h : ¬ c < 0 ∧ ¬ 8 ≤ c) : vp_in c 8 := qm_in8 h.1 h.2
theorem im_th0 {T : sM} {x : Int32} (h : IM T) : IM (th x T) := im_kind0 h rfl rfl rfl
theorem thr_co {c k q u : Int32} {X : sM} : r_X7_thrown (r_X7_come c k q u X).2 = X.2.2.2.2.2.2 := by
  rw [cm_2]
  rfl
theorem vq_q2 {q : Int32} (h : ¬ q < -160 ∧ ¬ 160 < q) : vq 0 q 0 := vq_q (by rw [in_1 h]; decide)
/-- two cells change what they have -/
def sw_T (c d : Int32) (T : sM) : Int32 × sM :=
  ((r_X7_come c (T.1 d.toNatClampNeg) (T.2.1 d.toNatClampNeg) (T.2.2.1 d.toNatClampNeg) (th 0 T)).1,
    (upd (upd T.1 c.toNatClampNeg (T.1 d.toNatClampNeg)) d.toNatClampNeg (T.1 c.toNatClampNeg), upd (upd T.2.1 c.toNatClampNeg (T.2.1 d.toNatClampNeg)) d.toNatClampNeg (T.2.1 c.toNatClampNeg), upd (upd T.2.2.1 c.toNatClampNeg (vp_nar .boolean (T.2.2.1 d.toNatClampNeg))) d.toNatClampNeg (vp_nar .boolean (T.2.2.1 c.toNatClampNeg)), T.2.2.2.1 + 1 + 1 - 1, T.2.2.2.2.1, T.2.2.2.2.2.1, 0))
theorem rw_swap {S : sX} {T : sM} {c d : Int32} (hR : Rw S T) (hI : IM T) (hc : vp_in c 8) (hd : vp_in d 8) : (r_X5_swap c d S).1 = (sw_T c d T).1 ∧ Rw (r_X5_swap c d S).2 (sw_T c d T).2 := by
  have e1 := hR.1.1 _ (vp_lt hc)
  have e2 := hR.1.1 _ (vp_lt hd)
  refine ⟨?_, ?_⟩
  · show (r_X5_bring d (S.1 c.toNatClampNeg) (r_X5_place c (S.1 d.toNatClampNeg) S)).1 = (r_X7_come c (T.1 d.toNatClampNeg) (T.2.1 d.toNatClampNeg) (T.2.2.1 d.toNatClampNeg) (th 0 T)).1
    rw [br_1, cm_1]
    have e3 : (r_X5_place c (S.1 d.toNatClampNeg) S).1 d.toNatClampNeg = S.1 d.toNatClampNeg := by
      show upd S.1 c.toNatClampNeg (S.1 d.toNatClampNeg) d.toNatClampNeg = S.1 d.toNatClampNeg
      by_cases e : d.toNatClampNeg = c.toNatClampNeg
      · rw [← e, upd_same]
      · rw [upd_ne _ _ e]
    rw [e3, e1, e2]
    show _ = if T.1 c.toNatClampNeg = T.1 d.toNatClampNeg ∧ T.2.1 c.toNatClampNeg = T.2.1 d.toNatClampNeg ∧ T.2.2.1 c.toNatClampNeg = T.2.2.1 d.toNatClampNeg then 0 else 1
    by_cases e : T.1 c.toNatClampNeg = T.1 d.toNatClampNeg ∧ T.2.1 c.toNatClampNeg = T.2.1 d.toNatClampNeg ∧ T.2.2.1 c.toNatClampNeg = T.2.2.1 d.toNatClampNeg
    · rw [if_pos e, if_pos (by rw [e.1, e.2.1, e.2.2])]
    · rw [if_neg e, if_neg (fun z => e (by obtain ⟨a, b, c⟩ := enc_inj (hI _ (vp_lt hd)) (hI _ (vp_lt hc)) z; exact ⟨a.symm, b.symm, c.symm⟩))]
  · show Rw (r_X5_bring d (S.1 c.toNatClampNeg) (r_X5_place c (S.1 d.toNatClampNeg) S)).2 (sw_T c d T).2
    rw [br_2]
    have h1 := rw_put (c := c) (d := S.2.2.2.1) (e := T.2.2.2.1) hR.1 (hI _ (vp_lt hd))
    have h2 := rw_put (c := d) (d := S.2.2.2.1 + 1) (e := T.2.2.2.1 + 1 + 1 - 1) h1 (hI _ (vp_lt hc))
    rw [← e1, ← e2] at h2
    refine ⟨h2, ?_⟩
    show S.2.2.2.1 + 1 = T.2.2.2.1 + 1 + 1 - 1
    rw [Int32.add_sub_cancel, hR.2]
/-- the other side -/
def tuU (kd q u : Int32) : Int32 := if kd = 1 then (if u = 0 then 1 else 0) else if q = 0 then (if u = 0 then 1 else 0) else 0
theorem tu_e (c : Int32) (T : sM) (hk : T.1 c.toNatClampNeg ≤ 1) : (if T.1 c.toNatClampNeg ≤ 1 then (if T.1 c.toNatClampNeg = 1 then (if T.2.2.1 c.toNatClampNeg = 0 then ((r_X7_come c (T.1 c.toNatClampNeg) (-(T.2.1 c.toNatClampNeg)) 1 (th 0 T)).1, (r_X7_come c (T.1 c.toNatClampNeg) (-(T.2.1 c.toNatClampNeg)) 1 (th 0 T)).2) else ((r_X7_come c (T.1 c.toNatClampNeg) (-(T.2.1 c.toNatClampNeg)) 0 (th 0 T)).1, (r_X7_come c (T.1 c.toNatClampNeg) (-(T.2.1 c.toNatClampNeg)) 0 (th 0 T)).2)) else if T.2.1 c.toNatClampNeg = 0 then (if T.2.2.1 c.toNatClampNeg = 0 then ((r_X7_come c (T.1 c.toNatClampNeg) (-(T.2.1 c.toNatClampNeg)) 1 (th 0 T)).1, (r_X7_come c (T.1 c.toNatClampNeg) (-(T.2.1 c.toNatClampNeg)) 1 (th 0 T)).2) else ((r_X7_come c (T.1 c.toNatClampNeg) (-(T.2.1 c.toNatClampNeg)) 0 (th 0 T)).1, (r_X7_come c (T.1 c.toNatClampNeg) (-(T.2.1 c.toNatClampNeg)) 0 (th 0 T)).2)) else ((r_X7_come c (T.1 c.toNatClampNeg) (-(T.2.1 c.toNatClampNeg)) 0 (th 0 T)).1, (r_X7_come c (T.1 c.toNatClampNeg) (-(T.2.1 c.toNatClampNeg)) 0 (th 0 T)).2)) else ((r_X7_refused (th 0 T)).1, (r_X7_refused (th 0 T)).2)) = r_X7_come c (T.1 c.toNatClampNeg) (-(T.2.1 c.toNatClampNeg)) (tuU (T.1 c.toNatClampNeg) (T.2.1 c.toNatClampNeg) (T.2.2.1 c.toNatClampNeg)) (th 0 T) := by
  rw [if_pos hk]
  unfold tuU
  by_cases h1 : T.1 c.toNatClampNeg = 1
  · rw [if_pos h1, if_pos h1]
    by_cases h2 : T.2.2.1 c.toNatClampNeg = 0
    · rw [if_pos h2, if_pos h2]
    · rw [if_neg h2, if_neg h2]
  · rw [if_neg h1, if_neg h1]
    by_cases h3 : T.2.1 c.toNatClampNeg = 0
    · rw [if_pos h3, if_pos h3]
      by_cases h2 : T.2.2.1 c.toNatClampNeg = 0
      · rw [if_pos h2, if_pos h2]
      · rw [if_neg h2, if_neg h2]
    · rw [if_neg h3, if_neg h3]
theorem tu_v0 : vall (fun kd q u => decide (1 < kd) || decide (f_X2_turned (enc kd q u) = enc kd (-q) (tuU kd q u))) = true := by decide +kernel
theorem tu_v {kd q u : Int32} (h : vq kd q u) (hk : kd ≤ 1) : f_X2_turned (enc kd q u) = enc kd (-q) (tuU kd q u) := by
  rcases Bool.or_eq_true_iff.mp (vall_e tu_v0 h) with e | e
  · exact absurd (of_decide_eq_true e) (qm_len hk)
  · exact of_decide_eq_true e
theorem kd_le {kd q u : Int32} (h : vq kd q u) (hk : kd ≤ 1) : kd = 0 ∨ kd = 1 := by
  rcases h with ⟨h, _⟩ | ⟨h, _⟩ | ⟨h, _⟩ | ⟨h, _⟩ | ⟨h, _⟩ | ⟨h, _⟩ | ⟨h, _⟩
  · exact Or.inl h
  · exact Or.inr h
  · rw [h] at hk; exact absurd hk (by decide)
  · rw [h] at hk; exact absurd hk (by decide)
  · rw [h] at hk; exact absurd hk (by decide)
  · rw [h] at hk; exact absurd hk (by decide)
  · rw [h] at hk; exact absurd hk (by decide)
theorem tu_q {kd q u : Int32} (h : vq kd q u) (hk : kd ≤ 1) : vq kd (-q) (tuU kd q u) := by
  unfold tuU
  have n := vq_neg h hk
  have u01 : ∀ x : Int32, (if x = 0 then (1 : Int32) else 0) = 0 ∨ (if x = 0 then (1 : Int32) else 0) = 1 := fun x => by
    by_cases e : x = 0
    · rw [if_pos e]; exact Or.inr rfl
    · rw [if_neg e]; exact Or.inl rfl
  by_cases h1 : kd = 1
  · rw [if_pos h1]
    exact n.1 h1 _ (u01 u)
  · rw [if_neg h1]
    by_cases h0 : q = 0
    · rw [if_pos h0]
      exact (n.2 h1).1 h0 _ (u01 u)
    · rw [if_neg h0]
      exact (n.2 h1).2

theorem cw_quarter {S S1 : sX} {T : sM} {k0 : Int32} {n n0 : Int64} {p0 p1 : Int32} (hI : IM T) (hR : Rw S T) (D : (k0 = 0 ∧ (¬ p0 < 0 ∧ ¬ 8 ≤ p0) ∧ (¬ p1 < -160 ∧ ¬ 160 < p1) ∧ S1 = (r_X5_quarter p0 p1 S).2 ∧ n0 = (r_X5_quarter p0 p1 S).1.toInt64) ∨ (k0 = 1 ∧ (p0 < 0 ∨ 8 ≤ p0) ∧ S1 = S ∧ n0 = n) ∨ (k0 = 2 ∧ (¬ p0 < 0 ∧ ¬ 8 ≤ p0) ∧ (p1 < -160 ∨ 160 < p1) ∧ S1 = S ∧ n0 = n)) : Rw S1 (r_X7_quarter p0 p1 T).2 ∧ r_X7_thrown (r_X7_quarter p0 p1 T).2 = k0 ∧ (k0 = 0 → n0 = (r_X7_quarter p0 p1 T).1.toInt64) := by
  rcases D with ⟨rfl, g0, g1, rfl, rfl⟩ | ⟨rfl, f0, rfl, rfl⟩ | ⟨rfl, g0, f1, rfl, rfl⟩
  · have e : r_X7_quarter p0 p1 T = r_X7_come p0 0 p1 0 (th 0 T) := by
      unfold r_X7_quarter
      rw [in_1 g1, it1, nc0 g0, rfs0, q0c]
      try rfl
    rw [e]
    have h := rw_come (c := p0) (T := th 0 T) hR (im_th0 hI) (in8 g0) (vq_q2 g1)
    have e2 : r_X5_quarter p0 p1 S = r_X5_bring p0 (enc 0 p1 0) S := by unfold r_X5_quarter; rw [enc_q]
    rw [e2]
    exact ⟨h.2, thr_co, fun _ => congrArg Int32.toInt64 h.1⟩
  · by_cases z : p1 < -160 ∨ 160 < p1
    · have e : r_X7_quarter p0 p1 T = (0, th 1 T) := by
        unfold r_X7_quarter
        rw [in_0 z, it0, nc1 f0, rfs1, q1c]
        try rfl
      rw [e]
      exact ⟨hR, rfl, fun h => absurd h (by decide)⟩
    · have e : r_X7_quarter p0 p1 T = (0, th 1 T) := by
        unfold r_X7_quarter
        rw [in_1 (not_or.mp z), it1, nc1 f0, rfs1, q1c]
        try rfl
      rw [e]
      exact ⟨hR, rfl, fun h => absurd h (by decide)⟩
  · have e : r_X7_quarter p0 p1 T = (0, th 2 T) := by
      unfold r_X7_quarter
      rw [in_0 f1, it0, nc0 g0, rfs2, q1c]
      try rfl
    rw [e]
    exact ⟨hR, rfl, fun h => absurd h (by decide)⟩
theorem cw_zero {S S1 : sX} {T : sM} {k0 : Int32} {n n0 : Int64} {p0 p1 : Int32} (hI : IM T) (hR : Rw S T) (hu : p1 = 0 ∨ p1 = 1) (D : (k0 = 0 ∧ (¬ p0 < 0 ∧ ¬ 8 ≤ p0) ∧ S1 = (r_X5_zero p0 p1 S).2 ∧ n0 = (r_X5_zero p0 p1 S).1.toInt64) ∨ (k0 = 1 ∧ (p0 < 0 ∨ 8 ≤ p0) ∧ S1 = S ∧ n0 = n)) : Rw S1 (r_X7_zero p0 p1 T).2 ∧ r_X7_thrown (r_X7_zero p0 p1 T).2 = k0 ∧ (k0 = 0 → n0 = (r_X7_zero p0 p1 T).1.toInt64) := by
  rcases D with ⟨rfl, g0, rfl, rfl⟩ | ⟨rfl, f0, rfl, rfl⟩
  · have e : r_X7_zero p0 p1 T = r_X7_come p0 0 0 p1 (th 0 T) := by
      unfold r_X7_zero
      rw [nc0 g0, rfs0, q0c]
      try rfl
    rw [e]
    have h := rw_come (c := p0) (T := th 0 T) hR (im_th0 hI) (in8 g0) (vq_z hu)
    have e2 : r_X5_zero p0 p1 S = r_X5_bring p0 (enc 0 0 p1) S := rfl
    rw [e2]
    exact ⟨h.2, thr_co, fun _ => congrArg Int32.toInt64 h.1⟩
  · have e : r_X7_zero p0 p1 T = (0, th 1 T) := by
      unfold r_X7_zero
      rw [nc1 f0, rfs1, q1c]
      try rfl
    rw [e]
    exact ⟨hR, rfl, fun h => absurd h (by decide)⟩
theorem cw_endless {S S1 : sX} {T : sM} {k0 : Int32} {n n0 : Int64} {p0 p1 : Int32} (hI : IM T) (hR : Rw S T) (hu : p1 = 0 ∨ p1 = 1) (D : (k0 = 0 ∧ (¬ p0 < 0 ∧ ¬ 8 ≤ p0) ∧ S1 = (r_X5_endless p0 p1 S).2 ∧ n0 = (r_X5_endless p0 p1 S).1.toInt64) ∨ (k0 = 1 ∧ (p0 < 0 ∨ 8 ≤ p0) ∧ S1 = S ∧ n0 = n)) : Rw S1 (r_X7_endless p0 p1 T).2 ∧ r_X7_thrown (r_X7_endless p0 p1 T).2 = k0 ∧ (k0 = 0 → n0 = (r_X7_endless p0 p1 T).1.toInt64) := by
  rcases D with ⟨rfl, g0, rfl, rfl⟩ | ⟨rfl, f0, rfl, rfl⟩
  · have e : r_X7_endless p0 p1 T = r_X7_come p0 1 0 p1 (th 0 T) := by
      unfold r_X7_endless
      rw [nc0 g0, rfs0, q0c]
      try rfl
    rw [e]
    have h := rw_come (c := p0) (T := th 0 T) hR (im_th0 hI) (in8 g0) (vq_e hu)
    have e2 : r_X5_endless p0 p1 S = r_X5_bring p0 (enc 1 0 p1) S := rfl
    rw [e2]
    exact ⟨h.2, thr_co, fun _ => congrArg Int32.toInt64 h.1⟩
  · have e : r_X7_endless p0 p1 T = (0, th 1 T) := by
      unfold r_X7_endless
      rw [nc1 f0, rfs1, q1c]
      try rfl
    rw [e]
    exact ⟨hR, rfl, fun h => absurd h (by decide)⟩
theorem cw_copy {S S1 : sX} {T : sM} {k0 : Int32} {n n0 : Int64} {p0 p1 : Int32} (hI : IM T) (hR : Rw S T) (D : (k0 = 0 ∧ (¬ p0 < 0 ∧ ¬ 8 ≤ p0) ∧ (¬ p1 < 0 ∧ ¬ 8 ≤ p1) ∧ S1 = (r_X5_copy p0 p1 S).2 ∧ n0 = (r_X5_copy p0 p1 S).1.toInt64) ∨ (k0 = 1 ∧ (p0 < 0 ∨ 8 ≤ p0) ∧ S1 = S ∧ n0 = n) ∨ (k0 = 1 ∧ (¬ p0 < 0 ∧ ¬ 8 ≤ p0) ∧ (p1 < 0 ∨ 8 ≤ p1) ∧ S1 = S ∧ n0 = n)) : Rw S1 (r_X7_copy p0 p1 T).2 ∧ r_X7_thrown (r_X7_copy p0 p1 T).2 = k0 ∧ (k0 = 0 → n0 = (r_X7_copy p0 p1 T).1.toInt64) := by
  rcases D with ⟨rfl, g0, g1, rfl, rfl⟩ | ⟨rfl, f0, rfl, rfl⟩ | ⟨rfl, g0, f1, rfl, rfl⟩
  · have e : r_X7_copy p0 p1 T = r_X7_come p1 (T.1 p0.toNatClampNeg) (T.2.1 p0.toNatClampNeg) (T.2.2.1 p0.toNatClampNeg) (th 0 T) := by
      unfold r_X7_copy
      rw [nc0 g0, it0, nc0 g1, it0, rfs0, q0c]
      try rfl
    rw [e]
    have h := rw_come (c := p1) (T := th 0 T) hR (im_th0 hI) (in8 g1) (hI _ (vp_lt (in8 g0)))
    have e2 : r_X5_copy p0 p1 S = r_X5_bring p1 (enc (T.1 p0.toNatClampNeg) (T.2.1 p0.toNatClampNeg) (T.2.2.1 p0.toNatClampNeg)) S := by unfold r_X5_copy; rw [hR.1.1 _ (vp_lt (in8 g0))]
    rw [e2]
    exact ⟨h.2, thr_co, fun _ => congrArg Int32.toInt64 h.1⟩
  · have e : r_X7_copy p0 p1 T = (0, th 1 T) := by
      unfold r_X7_copy
      rw [nc1 f0, it1, rfs1, q1c]
      try rfl
    rw [e]
    exact ⟨hR, rfl, fun h => absurd h (by decide)⟩
  · have e : r_X7_copy p0 p1 T = (0, th 1 T) := by
      unfold r_X7_copy
      rw [nc0 g0, it0, nc1 f1, it1, rfs1, q1c]
      try rfl
    rw [e]
    exact ⟨hR, rfl, fun h => absurd h (by decide)⟩
theorem cw_swap {S S1 : sX} {T : sM} {k0 : Int32} {n n0 : Int64} {p0 p1 : Int32} (hI : IM T) (hR : Rw S T) (D : (k0 = 0 ∧ (¬ p0 < 0 ∧ ¬ 8 ≤ p0) ∧ (¬ p1 < 0 ∧ ¬ 8 ≤ p1) ∧ S1 = (r_X5_swap p0 p1 S).2 ∧ n0 = (r_X5_swap p0 p1 S).1.toInt64) ∨ (k0 = 1 ∧ (p0 < 0 ∨ 8 ≤ p0) ∧ S1 = S ∧ n0 = n) ∨ (k0 = 1 ∧ (¬ p0 < 0 ∧ ¬ 8 ≤ p0) ∧ (p1 < 0 ∨ 8 ≤ p1) ∧ S1 = S ∧ n0 = n)) : Rw S1 (r_X7_swap p0 p1 T).2 ∧ r_X7_thrown (r_X7_swap p0 p1 T).2 = k0 ∧ (k0 = 0 → n0 = (r_X7_swap p0 p1 T).1.toInt64) := by
  rcases D with ⟨rfl, g0, g1, rfl, rfl⟩ | ⟨rfl, f0, rfl, rfl⟩ | ⟨rfl, g0, f1, rfl, rfl⟩
  · have e : r_X7_swap p0 p1 T = sw_T p0 p1 T := by
      unfold r_X7_swap
      rw [nc0 g0, it0, nc0 g1, it0, rfs0, q0c, cm_2, cm_2]
      try rfl
    rw [e]
    have h := rw_swap (c := p0) (d := p1) hR hI (in8 g0) (in8 g1)
    exact ⟨h.2, rfl, fun _ => congrArg Int32.toInt64 h.1⟩
  · have e : r_X7_swap p0 p1 T = (0, th 1 T) := by
      unfold r_X7_swap
      rw [nc1 f0, it1, rfs1, q1c]
      try rfl
    rw [e]
    exact ⟨hR, rfl, fun h => absurd h (by decide)⟩
  · have e : r_X7_swap p0 p1 T = (0, th 1 T) := by
      unfold r_X7_swap
      rw [nc0 g0, it0, nc1 f1, it1, rfs1, q1c]
      try rfl
    rw [e]
    exact ⟨hR, rfl, fun h => absurd h (by decide)⟩
theorem cw_step {S S1 : sX} {T : sM} {k0 : Int32} {n n0 : Int64} {p0 p1 : Int32} (hI : IM T) (hR : Rw S T) (D : (k0 = 0 ∧ (¬ p0 < 0 ∧ ¬ 8 ≤ p0) ∧ (¬ p1 < -320 ∧ ¬ 320 < p1) ∧ S1 = (r_X5_step p0 p1 S).2 ∧ n0 = (r_X5_step p0 p1 S).1.toInt64) ∨ (k0 = 1 ∧ (p0 < 0 ∨ 8 ≤ p0) ∧ S1 = S ∧ n0 = n) ∨ (k0 = 2 ∧ (¬ p0 < 0 ∧ ¬ 8 ≤ p0) ∧ (p1 < -320 ∨ 320 < p1) ∧ S1 = S ∧ n0 = n)) : Rw S1 (r_X7_step p0 p1 T).2 ∧ r_X7_thrown (r_X7_step p0 p1 T).2 = k0 ∧ (k0 = 0 → n0 = (r_X7_step p0 p1 T).1.toInt64) := by
  rcases D with ⟨rfl, g0, g1, rfl, rfl⟩ | ⟨rfl, f0, rfl, rfl⟩ | ⟨rfl, g0, f1, rfl, rfl⟩
  · have hv := hI _ (vp_lt (in8 g0))
    obtain ⟨v1, v2, v3⟩ := enc_v hv
    rw [← hR.1.1 _ (vp_lt (in8 g0))] at v1 v2
    by_cases hk : T.1 p0.toNatClampNeg = 0
    · have eq : qx (T.1 p0.toNatClampNeg) (T.2.1 p0.toNatClampNeg) (T.2.2.1 p0.toNatClampNeg) = T.2.1 p0.toNatClampNeg := by
        unfold qx
        rw [hk, if_neg (by decide)]
      by_cases hz : f_X7_isIn (T.2.1 p0.toNatClampNeg + p1) (-160) 160 = 0
      · have e : r_X7_step p0 p1 T = r_X7_refused (th 0 T) := by
          unfold r_X7_step
          rw [in_1 g1, it1, nc0 g0, rfs0, q0c]
          exact (if_pos hk).trans (if_pos hz)
        have e2 : r_X5_step p0 p1 S = r_X5_refuse S := by
          unfold r_X5_step
          rw [v1, v2, eq, if_pos hk]
          exact if_pos hz
        rw [e, e2]
        have h := rw_rf (T := th 0 T) hR
        exact ⟨h.2, rfl, fun _ => congrArg Int32.toInt64 h.1⟩
      · have e : r_X7_step p0 p1 T = r_X7_come p0 0 (T.2.1 p0.toNatClampNeg + p1) 0 (th 0 T) := by
          unfold r_X7_step
          rw [in_1 g1, it1, nc0 g0, rfs0, q0c]
          exact (if_pos hk).trans (if_neg hz)
        have e2 : r_X5_step p0 p1 S = r_X5_bring p0 (enc 0 (T.2.1 p0.toNatClampNeg + p1) 0) S := by
          unfold r_X5_step
          rw [v1, v2, eq, if_pos hk, ← enc_q]
          exact if_neg hz
        rw [e, e2]
        have h := rw_come (c := p0) (T := th 0 T) hR (im_th0 hI) (in8 g0) (vq_q hz)
        exact ⟨h.2, thr_co, fun _ => congrArg Int32.toInt64 h.1⟩
    · have e : r_X7_step p0 p1 T = r_X7_refused (th 0 T) := by
        unfold r_X7_step
        rw [in_1 g1, it1, nc0 g0, rfs0, q0c]
        exact if_neg hk
      have e2 : r_X5_step p0 p1 S = r_X5_refuse S := by
        unfold r_X5_step
        rw [v1, if_neg hk]
      rw [e, e2]
      have h := rw_rf (T := th 0 T) hR
      exact ⟨h.2, rfl, fun _ => congrArg Int32.toInt64 h.1⟩
  · by_cases z : p1 < -320 ∨ 320 < p1
    · have e : r_X7_step p0 p1 T = (0, th 1 T) := by
        unfold r_X7_step
        rw [in_0 z, it0, nc1 f0, rfs1, q1c]
        try rfl
      rw [e]
      exact ⟨hR, rfl, fun h => absurd h (by decide)⟩
    · have e : r_X7_step p0 p1 T = (0, th 1 T) := by
        unfold r_X7_step
        rw [in_1 (not_or.mp z), it1, nc1 f0, rfs1, q1c]
        try rfl
      rw [e]
      exact ⟨hR, rfl, fun h => absurd h (by decide)⟩
  · have e : r_X7_step p0 p1 T = (0, th 2 T) := by
      unfold r_X7_step
      rw [in_0 f1, it0, nc0 g0, rfs2, q1c]
      try rfl
    rw [e]
    exact ⟨hR, rfl, fun h => absurd h (by decide)⟩
theorem cw_turn {S S1 : sX} {T : sM} {k0 : Int32} {n n0 : Int64} {p0 : Int32} (hI : IM T) (hR : Rw S T) (D : (k0 = 0 ∧ (¬ p0 < 0 ∧ ¬ 8 ≤ p0) ∧ S1 = (r_X5_turn p0 S).2 ∧ n0 = (r_X5_turn p0 S).1.toInt64) ∨ (k0 = 1 ∧ (p0 < 0 ∨ 8 ≤ p0) ∧ S1 = S ∧ n0 = n)) : Rw S1 (r_X7_turn p0 T).2 ∧ r_X7_thrown (r_X7_turn p0 T).2 = k0 ∧ (k0 = 0 → n0 = (r_X7_turn p0 T).1.toInt64) := by
  rcases D with ⟨rfl, g0, rfl, rfl⟩ | ⟨rfl, f0, rfl, rfl⟩
  · have hv := hI _ (vp_lt (in8 g0))
    obtain ⟨v1, v2, v3⟩ := enc_v hv
    have eS := hR.1.1 _ (vp_lt (in8 g0))
    by_cases hk : T.1 p0.toNatClampNeg ≤ 1
    · have e : r_X7_turn p0 T = r_X7_come p0 (T.1 p0.toNatClampNeg) (-(T.2.1 p0.toNatClampNeg)) (tuU (T.1 p0.toNatClampNeg) (T.2.1 p0.toNatClampNeg) (T.2.2.1 p0.toNatClampNeg)) (th 0 T) := by
        unfold r_X7_turn
        rw [nc0 g0, rfs0, q0c]
        exact tu_e p0 T hk
      have e2 : r_X5_turn p0 S = r_X5_bring p0 (enc (T.1 p0.toNatClampNeg) (-(T.2.1 p0.toNatClampNeg)) (tuU (T.1 p0.toNatClampNeg) (T.2.1 p0.toNatClampNeg) (T.2.2.1 p0.toNatClampNeg))) S := by
        unfold r_X5_turn
        rw [eS, v1, tu_v hv hk]
        rcases kd_le hv hk with h | h
        · rw [if_pos h]
        · rw [if_neg (by rw [h]; decide), if_pos h]
      rw [e, e2]
      have h := rw_come (c := p0) (T := th 0 T) hR (im_th0 hI) (in8 g0) (tu_q hv hk)
      exact ⟨h.2, thr_co, fun _ => congrArg Int32.toInt64 h.1⟩
    · have e : r_X7_turn p0 T = r_X7_refused (th 0 T) := by
        unfold r_X7_turn
        rw [nc0 g0, rfs0, q0c]
        exact if_neg hk
      have e2 : r_X5_turn p0 S = r_X5_refuse S := by
        unfold r_X5_turn
        rw [eS, v1, if_neg (fun z => hk (by rw [z]; decide)), if_neg (fun z => hk (by rw [z]; decide))]
      rw [e, e2]
      have h := rw_rf (T := th 0 T) hR
      exact ⟨h.2, rfl, fun _ => congrArg Int32.toInt64 h.1⟩
  · have e : r_X7_turn p0 T = (0, th 1 T) := by
      unfold r_X7_turn
      rw [nc1 f0, rfs1, q1c]
      try rfl
    rw [e]
    exact ⟨hR, rfl, fun h => absurd h (by decide)⟩
/-! what a number becomes, on both sides -/
def bec (how kd q u : Int32) : Option qR := om (r_X7_become how kd q u mS0) (if (r_X7_isBackN mS0) = 0 then none else none) (fun fo => if (r_X7_isBack fo mS0) = 0 then some fo else if (-32) ≤ (fo (1 : Int32).toNatClampNeg) then some fo else none)
theorem bec_e (how c : Int32) (T : sM) : r_X7_becomes how c T = bec how (T.1 c.toNatClampNeg) (T.2.1 c.toNatClampNeg) (T.2.2.1 c.toNatClampNeg) := rfl
def becB (how kd q u : Int32) : Bool := match bec how kd q u with
  | none => f_X0_change how (enc kd q u) == -1
  | some fo => (f_X0_change how (enc kd q u) == enc (fo (0 : Int32).toNatClampNeg) (fo (1 : Int32).toNatClampNeg) (fo (2 : Int32).toNatClampNeg)) && !(f_X0_change how (enc kd q u) == -1)
theorem bec_1 : vall (becB 1) = true := by decide +kernel
theorem bec_2 : vall (becB 2) = true := by decide +kernel
theorem bec_3 : vall (becB 3) = true := by decide +kernel
theorem bec_v {how kd q u : Int32} (hh : h13 how) (h : vq kd q u) : becB how kd q u = true := by
  rcases hh with rfl | rfl | rfl
  · exact vall_e bec_1 h
  · exact vall_e bec_2 h
  · exact vall_e bec_3 h
theorem bec_n {how kd q u : Int32} (hh : h13 how) (h : vq kd q u) (e : bec how kd q u = none) : f_X0_change how (enc kd q u) = -1 := by
  have := bec_v hh h
  unfold becB at this
  rw [e] at this
  exact eq_of_beq this
theorem bec_s {how kd q u : Int32} {fo : qR} (hh : h13 how) (h : vq kd q u) (e : bec how kd q u = some fo) : f_X0_change how (enc kd q u) = enc (fo (0 : Int32).toNatClampNeg) (fo (1 : Int32).toNatClampNeg) (fo (2 : Int32).toNatClampNeg) ∧ ¬ f_X0_change how (enc kd q u) = -1 := by
  have := bec_v hh h
  unfold becB at this
  rw [e] at this
  have h2 := Bool.and_eq_true_iff.mp this
  refine ⟨eq_of_beq h2.1, fun z => ?_⟩
  have h3 := h2.2
  rw [z] at h3
  exact absurd h3 (by decide)
theorem fo_u {fo : qR} {d : Int32} {X : sM} (h : vq (fo (0 : Int32).toNatClampNeg) (fo (1 : Int32).toNatClampNeg) (fo (2 : Int32).toNatClampNeg)) : (if fo (2 : Int32).toNatClampNeg = 1 then ((r_X7_come d (fo (0 : Int32).toNatClampNeg) (fo (1 : Int32).toNatClampNeg) 1 X).1, (r_X7_come d (fo (0 : Int32).toNatClampNeg) (fo (1 : Int32).toNatClampNeg) 1 X).2) else ((r_X7_come d (fo (0 : Int32).toNatClampNeg) (fo (1 : Int32).toNatClampNeg) 0 X).1, (r_X7_come d (fo (0 : Int32).toNatClampNeg) (fo (1 : Int32).toNatClampNeg) 0 X).2)) = r_X7_come d (fo (0 : Int32).toNatClampNeg) (fo (1 : Int32).toNatClampNeg) (fo (2 : Int32).toNatClampNeg) X := by
  rcases vq_u h with e | e
  · rw [e, if_neg (by decide)]
  · rw [e, if_pos rfl]
theorem rw_made {S : sX} {T : sM} {how c d : Int32} (hh : h13 how) (hR : Rw S T) (hI : IM T) (hc : vp_in c 8) (hd : vp_in d 8) (g0 : ¬ c < 0 ∧ ¬ 8 ≤ c) (g1 : ¬ d < 0 ∧ ¬ 8 ≤ d) : (r_X5_bringChanged how c d S).1 = (r_X7_made how c d T).1 ∧ Rw (r_X5_bringChanged how c d S).2 (r_X7_made how c d T).2 ∧ r_X7_thrown (r_X7_made how c d T).2 = 0 := by
  have hv := hI _ (vp_lt hc)
  have eS := hR.1.1 _ (vp_lt hc)
  have e0 : r_X7_made how c d T = om (r_X7_becomes how c (th 0 T)) (r_X7_refused (th 0 T)) (fun fo => if fo (2 : Int32).toNatClampNeg = 1 then ((r_X7_come d (fo (0 : Int32).toNatClampNeg) (fo (1 : Int32).toNatClampNeg) 1 (th 0 T)).1, (r_X7_come d (fo (0 : Int32).toNatClampNeg) (fo (1 : Int32).toNatClampNeg) 1 (th 0 T)).2) else ((r_X7_come d (fo (0 : Int32).toNatClampNeg) (fo (1 : Int32).toNatClampNeg) 0 (th 0 T)).1, (r_X7_come d (fo (0 : Int32).toNatClampNeg) (fo (1 : Int32).toNatClampNeg) 0 (th 0 T)).2)) := by
    unfold r_X7_made
    rw [nc0 g0, it0, nc0 g1, it0, rfs0, q0c]
    try rfl
  have eb : r_X7_becomes how c (th 0 T) = bec how (T.1 c.toNatClampNeg) (T.2.1 c.toNatClampNeg) (T.2.2.1 c.toNatClampNeg) := bec_e how c (th 0 T)
  have hb := bcs_v (how := how) (S := th 0 T) hh (im_th0 hI) hc
  rw [eb] at e0 hb
  unfold r_X5_bringChanged
  rw [eS, e0]
  cases e : bec how (T.1 c.toNatClampNeg) (T.2.1 c.toNatClampNeg) (T.2.2.1 c.toNatClampNeg) with
  | none =>
    rw [bec_n hh hv e, if_pos rfl]
    have h := rw_rf (T := th 0 T) hR
    exact ⟨h.1, h.2, rfl⟩
  | some fo =>
    obtain ⟨b1, b2⟩ := bec_s hh hv e
    rw [if_neg b2, b1]
    have hf := hb fo e
    have ef : om (some fo) (r_X7_refused (th 0 T)) (fun fo => if fo (2 : Int32).toNatClampNeg = 1 then ((r_X7_come d (fo (0 : Int32).toNatClampNeg) (fo (1 : Int32).toNatClampNeg) 1 (th 0 T)).1, (r_X7_come d (fo (0 : Int32).toNatClampNeg) (fo (1 : Int32).toNatClampNeg) 1 (th 0 T)).2) else ((r_X7_come d (fo (0 : Int32).toNatClampNeg) (fo (1 : Int32).toNatClampNeg) 0 (th 0 T)).1, (r_X7_come d (fo (0 : Int32).toNatClampNeg) (fo (1 : Int32).toNatClampNeg) 0 (th 0 T)).2)) = r_X7_come d (fo (0 : Int32).toNatClampNeg) (fo (1 : Int32).toNatClampNeg) (fo (2 : Int32).toNatClampNeg) (th 0 T) := fo_u hf
    rw [ef]
    have h := rw_come (c := d) (T := th 0 T) hR (im_th0 hI) hd hf
    exact ⟨h.1, h.2, thr_co⟩
/-- all cells that can -/
theorem h13_of {h : Int32} (g : ¬ h < 1 ∧ ¬ 3 < h) : h13 h := by
  obtain ⟨a, b⟩ := g
  rw [Int32.lt_iff_toInt_lt] at a b
  have e1 : (1 : Int32).toInt = 1 := rfl
  have e2 : (2 : Int32).toInt = 2 := rfl
  have e3 : (3 : Int32).toInt = 3 := rfl
  rcases (show h.toInt = 1 ∨ h.toInt = 2 ∨ h.toInt = 3 by omega) with e | e | e
  · exact Or.inl (Int32.toInt_inj.mp (e.trans e1.symm))
  · exact Or.inr (Or.inl (Int32.toInt_inj.mp (e.trans e2.symm)))
  · exact Or.inr (Or.inr (Int32.toInt_inj.mp (e.trans e3.symm)))
theorem rw_all37 {how bf : Int32} (hh : h13 how) : ∀ (fu : Nat) (n k : Int32) (S : sX) (T : sM), Rw0 S T → IM T → ¬ k < 0 → ((8 : Int32).toInt - k.toInt).toNat < fu → (lr_X5_all_10 how fu n k S).1 = (lf_X7_all_37 how bf fu n k T).1 ∧ Rw0 (lr_X5_all_10 how fu n k S).2 (lf_X7_all_37 how bf fu n k T).2.2 ∧ (lr_X5_all_10 how fu n k S).2.2.2.2.1 = S.2.2.2.1 + 1 ∧ (lf_X7_all_37 how bf fu n k T).2.2.2.2.2.2.2.2 = T.2.2.2.2.2.2
  | 0, _, _, _, _, _, _, _, h => absurd h (Nat.not_lt_zero _)
  | fu + 1, n, k, S, T, hR, hI, hk, h => by
    rw [lr_X5_all_10, lf_X7_all_37]
    by_cases c : 8 ≤ k
    · rw [if_pos c, if_pos c]
      exact ⟨rfl, hR, rfl, rfl⟩
    · rw [if_neg c, if_neg c]
      have h8 : vp_in k 8 := qm_in8 hk c
      have hv := hI _ (vp_lt h8)
      have eS := hR.1 _ (vp_lt h8)
      have hb := bcs_v (how := how) (S := T) hh hI h8
      have eb := bec_e how k T
      rw [eb] at hb ⊢
      rw [eS]
      cases e : bec how (T.1 k.toNatClampNeg) (T.2.1 k.toNatClampNeg) (T.2.2.1 k.toNatClampNeg) with
      | none =>
        rw [bec_n hh hv e, if_pos rfl]
        exact rw_all37 hh fu n (k + 1) S T hR hI (qm_pos hk c) (qm_up c h)
      | some fo =>
        obtain ⟨b1, b2⟩ := bec_s hh hv e
        rw [if_neg b2, b1]
        have hf := hb fo e
        have hc := rw_put (c := k) (d := S.2.2.2.1) (e := T.2.2.2.1 + 1) hR hf
        have key : ∀ u : Int32, u = fo (2 : Int32).toNatClampNeg → (lr_X5_all_10 how fu (n + 1) (k + 1) (r_X5_place k (enc (fo (0 : Int32).toNatClampNeg) (fo (1 : Int32).toNatClampNeg) (fo (2 : Int32).toNatClampNeg)) S)).1 = (lf_X7_all_37 how bf fu (n + 1) (k + 1) (r_X7_come k (fo (0 : Int32).toNatClampNeg) (fo (1 : Int32).toNatClampNeg) u T).2).1 ∧ Rw0 (lr_X5_all_10 how fu (n + 1) (k + 1) (r_X5_place k (enc (fo (0 : Int32).toNatClampNeg) (fo (1 : Int32).toNatClampNeg) (fo (2 : Int32).toNatClampNeg)) S)).2 (lf_X7_all_37 how bf fu (n + 1) (k + 1) (r_X7_come k (fo (0 : Int32).toNatClampNeg) (fo (1 : Int32).toNatClampNeg) u T).2).2.2 ∧ (lr_X5_all_10 how fu (n + 1) (k + 1) (r_X5_place k (enc (fo (0 : Int32).toNatClampNeg) (fo (1 : Int32).toNatClampNeg) (fo (2 : Int32).toNatClampNeg)) S)).2.2.2.2.1 = S.2.2.2.1 + 1 ∧ (lf_X7_all_37 how bf fu (n + 1) (k + 1) (r_X7_come k (fo (0 : Int32).toNatClampNeg) (fo (1 : Int32).toNatClampNeg) u T).2).2.2.2.2.2.2.2.2 = T.2.2.2.2.2.2 := by
          intro u hu
          rw [hu]
          have hi := im_come (c := k) hI hf
          have hr : Rw0 (r_X5_place k (enc (fo (0 : Int32).toNatClampNeg) (fo (1 : Int32).toNatClampNeg) (fo (2 : Int32).toNatClampNeg)) S) (r_X7_come k (fo (0 : Int32).toNatClampNeg) (fo (1 : Int32).toNatClampNeg) (fo (2 : Int32).toNatClampNeg) T).2 := by rw [cm_2]; exact hc
          obtain ⟨a1, a2, a3, a4⟩ := rw_all37 (bf := bf) hh fu (n + 1) (k + 1) _ _ hr hi (qm_pos hk c) (qm_up c h)
          refine ⟨a1, a2, a3, a4.trans ?_⟩
          rw [cm_2]
        show _ = (if fo (2 : Int32).toNatClampNeg = 1 then lf_X7_all_37 how bf fu (n + 1) (k + 1) (r_X7_come k (fo (0 : Int32).toNatClampNeg) (fo (1 : Int32).toNatClampNeg) 1 T).2 else lf_X7_all_37 how bf fu (n + 1) (k + 1) (r_X7_come k (fo (0 : Int32).toNatClampNeg) (fo (1 : Int32).toNatClampNeg) 0 T).2).1 ∧ Rw0 _ (if fo (2 : Int32).toNatClampNeg = 1 then lf_X7_all_37 how bf fu (n + 1) (k + 1) (r_X7_come k (fo (0 : Int32).toNatClampNeg) (fo (1 : Int32).toNatClampNeg) 1 T).2 else lf_X7_all_37 how bf fu (n + 1) (k + 1) (r_X7_come k (fo (0 : Int32).toNatClampNeg) (fo (1 : Int32).toNatClampNeg) 0 T).2).2.2 ∧ _ = _ ∧ (if fo (2 : Int32).toNatClampNeg = 1 then lf_X7_all_37 how bf fu (n + 1) (k + 1) (r_X7_come k (fo (0 : Int32).toNatClampNeg) (fo (1 : Int32).toNatClampNeg) 1 T).2 else lf_X7_all_37 how bf fu (n + 1) (k + 1) (r_X7_come k (fo (0 : Int32).toNatClampNeg) (fo (1 : Int32).toNatClampNeg) 0 T).2).2.2.2.2.2.2.2.2 = _
        by_cases e2 : fo (2 : Int32).toNatClampNeg = 1
        · rw [if_pos e2]
          exact key 1 e2.symm
        · rw [if_neg e2]
          exact key 0 ((vq_u hf).resolve_right e2).symm
def al_T (how : Int32) (T : sM) : Int32 × sM :=
  ((lf_X7_all_37 how T.2.2.2.1 9 0 0 (th 0 T)).1, ((lf_X7_all_37 how T.2.2.2.1 9 0 0 (th 0 T)).2.2.1, (lf_X7_all_37 how T.2.2.2.1 9 0 0 (th 0 T)).2.2.2.1, (lf_X7_all_37 how T.2.2.2.1 9 0 0 (th 0 T)).2.2.2.2.1, T.2.2.2.1 + 1, (lf_X7_all_37 how T.2.2.2.1 9 0 0 (th 0 T)).2.2.2.2.2.2.1, (lf_X7_all_37 how T.2.2.2.1 9 0 0 (th 0 T)).2.2.2.2.2.2.2.1, (lf_X7_all_37 how T.2.2.2.1 9 0 0 (th 0 T)).2.2.2.2.2.2.2.2))
theorem rw_all {S : sX} {T : sM} {how : Int32} (hh : h13 how) (hR : Rw S T) (hI : IM T) : (r_X5_all how S).1 = (al_T how T).1 ∧ Rw (r_X5_all how S).2 (al_T how T).2 ∧ r_X7_thrown (al_T how T).2 = 0 := by
  obtain ⟨a1, a2, a3, a4⟩ := rw_all37 (bf := T.2.2.2.1) hh 9 0 0 S (th 0 T) hR.1 (im_th0 hI) (by decide) (by decide)
  exact ⟨a1, ⟨a2, a3.trans (congrArg (fun x => x + 1) hR.2)⟩, a4⟩

theorem cw_power {S S1 : sX} {T : sM} {k0 : Int32} {n n0 : Int64} {p0 p1 : Int32} (hI : IM T) (hR : Rw S T) (D : (k0 = 0 ∧ (¬ p0 < 0 ∧ ¬ 8 ≤ p0) ∧ (¬ p1 < 0 ∧ ¬ 8 ≤ p1) ∧ S1 = (r_X5_power p0 p1 S).2 ∧ n0 = (r_X5_power p0 p1 S).1.toInt64) ∨ (k0 = 1 ∧ (p0 < 0 ∨ 8 ≤ p0) ∧ S1 = S ∧ n0 = n) ∨ (k0 = 1 ∧ (¬ p0 < 0 ∧ ¬ 8 ≤ p0) ∧ (p1 < 0 ∨ 8 ≤ p1) ∧ S1 = S ∧ n0 = n)) : Rw S1 (r_X7_power p0 p1 T).2 ∧ r_X7_thrown (r_X7_power p0 p1 T).2 = k0 ∧ (k0 = 0 → n0 = (r_X7_power p0 p1 T).1.toInt64) := by
  rcases D with ⟨rfl, g0, g1, rfl, rfl⟩ | ⟨rfl, f0, rfl, rfl⟩ | ⟨rfl, g0, f1, rfl, rfl⟩
  · have h := rw_made (how := 1) (c := p0) (d := p1) (Or.inl rfl) hR hI (in8 g0) (in8 g1) g0 g1
    exact ⟨h.2.1, h.2.2, fun _ => congrArg Int32.toInt64 h.1⟩
  · have e : r_X7_power p0 p1 T = (0, th 1 T) := by
      unfold r_X7_power r_X7_made
      rw [nc1 f0, it1, rfs1, q1c]
      try rfl
    rw [e]
    exact ⟨hR, rfl, fun h => absurd h (by decide)⟩
  · have e : r_X7_power p0 p1 T = (0, th 1 T) := by
      unfold r_X7_power r_X7_made
      rw [nc0 g0, it0, nc1 f1, it1, rfs1, q1c]
      try rfl
    rw [e]
    exact ⟨hR, rfl, fun h => absurd h (by decide)⟩
theorem cw_lessen {S S1 : sX} {T : sM} {k0 : Int32} {n n0 : Int64} {p0 p1 : Int32} (hI : IM T) (hR : Rw S T) (D : (k0 = 0 ∧ (¬ p0 < 0 ∧ ¬ 8 ≤ p0) ∧ (¬ p1 < 0 ∧ ¬ 8 ≤ p1) ∧ S1 = (r_X5_lessen p0 p1 S).2 ∧ n0 = (r_X5_lessen p0 p1 S).1.toInt64) ∨ (k0 = 1 ∧ (p0 < 0 ∨ 8 ≤ p0) ∧ S1 = S ∧ n0 = n) ∨ (k0 = 1 ∧ (¬ p0 < 0 ∧ ¬ 8 ≤ p0) ∧ (p1 < 0 ∨ 8 ≤ p1) ∧ S1 = S ∧ n0 = n)) : Rw S1 (r_X7_lessen p0 p1 T).2 ∧ r_X7_thrown (r_X7_lessen p0 p1 T).2 = k0 ∧ (k0 = 0 → n0 = (r_X7_lessen p0 p1 T).1.toInt64) := by
  rcases D with ⟨rfl, g0, g1, rfl, rfl⟩ | ⟨rfl, f0, rfl, rfl⟩ | ⟨rfl, g0, f1, rfl, rfl⟩
  · have h := rw_made (how := 2) (c := p0) (d := p1) (Or.inr (Or.inl rfl)) hR hI (in8 g0) (in8 g1) g0 g1
    exact ⟨h.2.1, h.2.2, fun _ => congrArg Int32.toInt64 h.1⟩
  · have e : r_X7_lessen p0 p1 T = (0, th 1 T) := by
      unfold r_X7_lessen r_X7_made
      rw [nc1 f0, it1, rfs1, q1c]
      try rfl
    rw [e]
    exact ⟨hR, rfl, fun h => absurd h (by decide)⟩
  · have e : r_X7_lessen p0 p1 T = (0, th 1 T) := by
      unfold r_X7_lessen r_X7_made
      rw [nc0 g0, it0, nc1 f1, it1, rfs1, q1c]
      try rfl
    rw [e]
    exact ⟨hR, rfl, fun h => absurd h (by decide)⟩
theorem cw_log {S S1 : sX} {T : sM} {k0 : Int32} {n n0 : Int64} {p0 p1 : Int32} (hI : IM T) (hR : Rw S T) (D : (k0 = 0 ∧ (¬ p0 < 0 ∧ ¬ 8 ≤ p0) ∧ (¬ p1 < 0 ∧ ¬ 8 ≤ p1) ∧ S1 = (r_X5_log p0 p1 S).2 ∧ n0 = (r_X5_log p0 p1 S).1.toInt64) ∨ (k0 = 1 ∧ (p0 < 0 ∨ 8 ≤ p0) ∧ S1 = S ∧ n0 = n) ∨ (k0 = 1 ∧ (¬ p0 < 0 ∧ ¬ 8 ≤ p0) ∧ (p1 < 0 ∨ 8 ≤ p1) ∧ S1 = S ∧ n0 = n)) : Rw S1 (r_X7_log p0 p1 T).2 ∧ r_X7_thrown (r_X7_log p0 p1 T).2 = k0 ∧ (k0 = 0 → n0 = (r_X7_log p0 p1 T).1.toInt64) := by
  rcases D with ⟨rfl, g0, g1, rfl, rfl⟩ | ⟨rfl, f0, rfl, rfl⟩ | ⟨rfl, g0, f1, rfl, rfl⟩
  · have h := rw_made (how := 3) (c := p0) (d := p1) (Or.inr (Or.inr rfl)) hR hI (in8 g0) (in8 g1) g0 g1
    exact ⟨h.2.1, h.2.2, fun _ => congrArg Int32.toInt64 h.1⟩
  · have e : r_X7_log p0 p1 T = (0, th 1 T) := by
      unfold r_X7_log r_X7_made
      rw [nc1 f0, it1, rfs1, q1c]
      try rfl
    rw [e]
    exact ⟨hR, rfl, fun h => absurd h (by decide)⟩
  · have e : r_X7_log p0 p1 T = (0, th 1 T) := by
      unfold r_X7_log r_X7_made
      rw [nc0 g0, it0, nc1 f1, it1, rfs1, q1c]
      try rfl
    rw [e]
    exact ⟨hR, rfl, fun h => absurd h (by decide)⟩
theorem cw_all {S S1 : sX} {T : sM} {k0 : Int32} {n n0 : Int64} {p0 : Int32} (hI : IM T) (hR : Rw S T) (D : (k0 = 0 ∧ (¬ p0 < 1 ∧ ¬ 3 < p0) ∧ S1 = (r_X5_all p0 S).2 ∧ n0 = (r_X5_all p0 S).1.toInt64) ∨ (k0 = 1 ∧ (p0 < 1 ∨ 3 < p0) ∧ S1 = S ∧ n0 = n)) : Rw S1 (r_X7_all p0 T).2 ∧ r_X7_thrown (r_X7_all p0 T).2 = k0 ∧ (k0 = 0 → n0 = (r_X7_all p0 T).1.toInt64) := by
  rcases D with ⟨rfl, g0, rfl, rfl⟩ | ⟨rfl, f0, rfl, rfl⟩
  · have h := rw_all (how := p0) (h13_of g0) hR hI
    have e : r_X7_all p0 T = al_T p0 T := by
      unfold r_X7_all
      rw [in_1 g0, it1]
      try rfl
    rw [e]
    exact ⟨h.2.1, h.2.2, fun _ => congrArg Int32.toInt64 h.1⟩
  · have e : r_X7_all p0 T = (0, th 1 T) := by
      unfold r_X7_all
      rw [in_0 f0, it0]
      try rfl
    rw [e]
    exact ⟨hR, rfl, fun h => absurd h (by decide)⟩
