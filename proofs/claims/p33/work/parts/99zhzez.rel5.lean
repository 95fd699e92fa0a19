/-! what depends on the order -/
theorem cmpI_n (x y : Int) : 0 ≤ cmpI y x ↔ cmpI x y ≤ 0 := by
  rcases Int.lt_trichotomy x y with h | h | h
  · rw [cmpI_g h, cmpI_l h]; decide
  · rw [cmpI_e h, cmpI_e h.symm]
  · rw [cmpI_l h, cmpI_g h]; decide
theorem ord_n {T : sM} (hI : IM T) {a b : Int32} (ha : vp_in a 8) (hb : vp_in b 8) : 0 ≤ r_X7_orderOf b a T ↔ r_X7_orderOf a b T ≤ 0 := by
  rw [orM (hI _ (vp_lt ha)) (hI _ (vp_lt hb)), orM (hI _ (vp_lt hb)) (hI _ (vp_lt ha))]
  exact cmpI_n _ _
theorem rw_take {S : sX} {T : sM} {c d : Int32} (hR : Rw S T) (hI : IM T) (hc : vp_in c 8) (hd : vp_in d 8) : (r_X5_bring d (S.1 c.toNatClampNeg) S).1 = (r_X7_take c d (th 0 T)).1 ∧ Rw (r_X5_bring d (S.1 c.toNatClampNeg) S).2 (r_X7_take c d (th 0 T)).2 ∧ r_X7_thrown (r_X7_take c d (th 0 T)).2 = 0 := by
  have h := rw_come (c := d) (T := th 0 T) hR (im_th0 hI) hd (hI _ (vp_lt hc))
  rw [hR.1.1 _ (vp_lt hc)]
  exact ⟨h.1, h.2, thr_co⟩
theorem rw_end {S : sX} {T : sM} {g d : Int32} (hR : Rw0 S T) (hI : IM T) : ∀ (fu : Nat) (b k : Int32), vp_in b 8 → ¬ k < 0 → ((8 : Int32).toInt - k.toInt).toNat < fu → lr_X5_end_9 g d fu b k S = r_X5_bring d (S.1 (lf_X7_end_19 g d fu b k T).1.toNatClampNeg) S ∧ vp_in (lf_X7_end_19 g d fu b k T).1 8
  | 0, _, _, _, _, h => absurd h (Nat.not_lt_zero _)
  | fu + 1, b, k, hb, hk, h => by
    rw [lr_X5_end_9, lf_X7_end_19]
    by_cases c : 8 ≤ k
    · rw [if_pos c, if_pos c]
      exact ⟨rfl, hb⟩
    · rw [if_neg c, if_neg c]
      have h8 : vp_in k 8 := qm_in8 hk c
      have i1 := rw_end (g := g) (d := d) hR hI fu b (k + 1) hb (qm_pos hk c) (qm_up c h)
      have i2 := rw_end (g := g) (d := d) hR hI fu k (k + 1) h8 (qm_pos hk c) (qm_up c h)
      rw [ordXM hR hI h8 hb]
      by_cases e : g = 0
      · rw [if_pos e, if_pos e]
        by_cases e2 : 0 ≤ r_X7_orderOf k b T
        · rw [if_pos e2, if_pos e2]; exact i1
        · rw [if_neg e2, if_neg e2]; exact i2
      · rw [if_neg e, if_neg e]
        by_cases e2 : 0 ≤ r_X7_orderOf b k T
        · rw [if_pos e2, if_pos ((ord_n hI h8 hb).mp e2)]; exact i1
        · rw [if_neg e2, if_neg (fun z => e2 ((ord_n hI h8 hb).mpr z))]; exact i2

theorem cw_greater {S S1 : sX} {T : sM} {k0 : Int32} {n n0 : Int64} {p0 p1 p2 : Int32} (hI : IM T) (hR : Rw S T) (D : (k0 = 0 ∧ (¬ p0 < 0 ∧ ¬ 8 ≤ p0) ∧ (¬ p1 < 0 ∧ ¬ 8 ≤ p1) ∧ (¬ p2 < 0 ∧ ¬ 8 ≤ p2) ∧ S1 = (r_X5_greater p0 p1 p2 S).2 ∧ n0 = (r_X5_greater p0 p1 p2 S).1.toInt64) ∨ (k0 = 1 ∧ (p0 < 0 ∨ 8 ≤ p0) ∧ S1 = S ∧ n0 = n) ∨ (k0 = 1 ∧ (¬ p0 < 0 ∧ ¬ 8 ≤ p0) ∧ (p1 < 0 ∨ 8 ≤ p1) ∧ S1 = S ∧ n0 = n) ∨ (k0 = 1 ∧ (¬ p0 < 0 ∧ ¬ 8 ≤ p0) ∧ (¬ p1 < 0 ∧ ¬ 8 ≤ p1) ∧ (p2 < 0 ∨ 8 ≤ p2) ∧ S1 = S ∧ n0 = n)) : Rw S1 (r_X7_greater p0 p1 p2 T).2 ∧ r_X7_thrown (r_X7_greater p0 p1 p2 T).2 = k0 ∧ (k0 = 0 → n0 = (r_X7_greater p0 p1 p2 T).1.toInt64) := by
  rcases D with ⟨rfl, g0, g1, g2, rfl, rfl⟩ | ⟨rfl, f0, rfl, rfl⟩ | ⟨rfl, g0, f1, rfl, rfl⟩ | ⟨rfl, g0, g1, f2, rfl, rfl⟩
  · have i0 := in8 g0
    have i1 := in8 g1
    have i2 := in8 g2
    have eo := ordXM (T := th 0 T) hR.1 (im_th0 hI) i0 i1
    have e : r_X7_greater p0 p1 p2 T = if 0 ≤ r_X7_orderOf p0 p1 (th 0 T) then r_X7_take p0 p2 (th 0 T) else r_X7_take p1 p2 (th 0 T) := by
      unfold r_X7_greater
      rw [nc0 g0, it0, nc0 g1, it0, nc0 g2, it0, rfs0, q0c]
      try rfl
    rw [e]
    unfold r_X5_greater
    rw [eo]
    by_cases z : 0 ≤ r_X7_orderOf p0 p1 (th 0 T)
    · rw [if_pos z, if_pos z]
      have h := rw_take (c := p0) (d := p2) hR hI i0 i2
      exact ⟨h.2.1, h.2.2, fun _ => congrArg Int32.toInt64 h.1⟩
    · rw [if_neg z, if_neg z]
      have h := rw_take (c := p1) (d := p2) hR hI i1 i2
      exact ⟨h.2.1, h.2.2, fun _ => congrArg Int32.toInt64 h.1⟩
  · have e : r_X7_greater p0 p1 p2 T = (0, th 1 T) := by
      unfold r_X7_greater
      rw [nc1 f0, it1, rfs1, q1c]
      try rfl
    rw [e]
    exact ⟨hR, rfl, fun h => absurd h (by decide)⟩
  · have e : r_X7_greater p0 p1 p2 T = (0, th 1 T) := by
      unfold r_X7_greater
      rw [nc0 g0, it0, nc1 f1, it1, rfs1, q1c]
      try rfl
    rw [e]
    exact ⟨hR, rfl, fun h => absurd h (by decide)⟩
  · have e : r_X7_greater p0 p1 p2 T = (0, th 1 T) := by
      unfold r_X7_greater
      rw [nc0 g0, it0, nc0 g1, it0, nc1 f2, it1, rfs1, q1c]
      try rfl
    rw [e]
    exact ⟨hR, rfl, fun h => absurd h (by decide)⟩
theorem cw_lesser {S S1 : sX} {T : sM} {k0 : Int32} {n n0 : Int64} {p0 p1 p2 : Int32} (hI : IM T) (hR : Rw S T) (D : (k0 = 0 ∧ (¬ p0 < 0 ∧ ¬ 8 ≤ p0) ∧ (¬ p1 < 0 ∧ ¬ 8 ≤ p1) ∧ (¬ p2 < 0 ∧ ¬ 8 ≤ p2) ∧ S1 = (r_X5_lesser p0 p1 p2 S).2 ∧ n0 = (r_X5_lesser p0 p1 p2 S).1.toInt64) ∨ (k0 = 1 ∧ (p0 < 0 ∨ 8 ≤ p0) ∧ S1 = S ∧ n0 = n) ∨ (k0 = 1 ∧ (¬ p0 < 0 ∧ ¬ 8 ≤ p0) ∧ (p1 < 0 ∨ 8 ≤ p1) ∧ S1 = S ∧ n0 = n) ∨ (k0 = 1 ∧ (¬ p0 < 0 ∧ ¬ 8 ≤ p0) ∧ (¬ p1 < 0 ∧ ¬ 8 ≤ p1) ∧ (p2 < 0 ∨ 8 ≤ p2) ∧ S1 = S ∧ n0 = n)) : Rw S1 (r_X7_lesser p0 p1 p2 T).2 ∧ r_X7_thrown (r_X7_lesser p0 p1 p2 T).2 = k0 ∧ (k0 = 0 → n0 = (r_X7_lesser p0 p1 p2 T).1.toInt64) := by
  rcases D with ⟨rfl, g0, g1, g2, rfl, rfl⟩ | ⟨rfl, f0, rfl, rfl⟩ | ⟨rfl, g0, f1, rfl, rfl⟩ | ⟨rfl, g0, g1, f2, rfl, rfl⟩
  · have i0 := in8 g0
    have i1 := in8 g1
    have i2 := in8 g2
    have eo := ordXM (T := th 0 T) hR.1 (im_th0 hI) i0 i1
    have e : r_X7_lesser p0 p1 p2 T = if 0 ≤ r_X7_orderOf p1 p0 (th 0 T) then r_X7_take p0 p2 (th 0 T) else r_X7_take p1 p2 (th 0 T) := by
      unfold r_X7_lesser
      rw [nc0 g0, it0, nc0 g1, it0, nc0 g2, it0, rfs0, q0c]
      try rfl
    rw [e]
    unfold r_X5_lesser
    rw [eo]
    by_cases z : 0 ≤ r_X7_orderOf p1 p0 (th 0 T)
    · rw [if_pos z, if_pos ((ord_n (T := th 0 T) (im_th0 hI) i0 i1).mp z)]
      have h := rw_take (c := p0) (d := p2) hR hI i0 i2
      exact ⟨h.2.1, h.2.2, fun _ => congrArg Int32.toInt64 h.1⟩
    · rw [if_neg z, if_neg (fun y => z ((ord_n (T := th 0 T) (im_th0 hI) i0 i1).mpr y))]
      have h := rw_take (c := p1) (d := p2) hR hI i1 i2
      exact ⟨h.2.1, h.2.2, fun _ => congrArg Int32.toInt64 h.1⟩
  · have e : r_X7_lesser p0 p1 p2 T = (0, th 1 T) := by
      unfold r_X7_lesser
      rw [nc1 f0, it1, rfs1, q1c]
      try rfl
    rw [e]
    exact ⟨hR, rfl, fun h => absurd h (by decide)⟩
  · have e : r_X7_lesser p0 p1 p2 T = (0, th 1 T) := by
      unfold r_X7_lesser
      rw [nc0 g0, it0, nc1 f1, it1, rfs1, q1c]
      try rfl
    rw [e]
    exact ⟨hR, rfl, fun h => absurd h (by decide)⟩
  · have e : r_X7_lesser p0 p1 p2 T = (0, th 1 T) := by
      unfold r_X7_lesser
      rw [nc0 g0, it0, nc0 g1, it0, nc1 f2, it1, rfs1, q1c]
      try rfl
    rw [e]
    exact ⟨hR, rfl, fun h => absurd h (by decide)⟩
theorem cw_end {S S1 : sX} {T : sM} {k0 : Int32} {n n0 : Int64} {p0 p1 : Int32} (hI : IM T) (hR : Rw S T) (D : (k0 = 0 ∧ (¬ p1 < 0 ∧ ¬ 8 ≤ p1) ∧ S1 = (r_X5_end p0 p1 S).2 ∧ n0 = (r_X5_end p0 p1 S).1.toInt64) ∨ (k0 = 1 ∧ (p1 < 0 ∨ 8 ≤ p1) ∧ S1 = S ∧ n0 = n)) : Rw S1 (r_X7_end p0 p1 T).2 ∧ r_X7_thrown (r_X7_end p0 p1 T).2 = k0 ∧ (k0 = 0 → n0 = (r_X7_end p0 p1 T).1.toInt64) := by
  rcases D with ⟨rfl, g1, rfl, rfl⟩ | ⟨rfl, f1, rfl, rfl⟩
  · have i2 := in8 g1
    obtain ⟨a1, a2⟩ := rw_end (g := p0) (d := p1) (T := th 0 T) hR.1 (im_th0 hI) 9 0 1 (vp_d (by decide)) (by decide) (by decide)
    have e : r_X7_end p0 p1 T = r_X7_take (lf_X7_end_19 p0 p1 9 0 1 (th 0 T)).1 p1 (th 0 T) := by
      unfold r_X7_end
      rw [nc0 g1, rfs0, q0c]
      try rfl
    rw [e]
    unfold r_X5_end
    rw [a1]
    have h := rw_take (d := p1) hR hI a2 i2
    exact ⟨h.2.1, h.2.2, fun _ => congrArg Int32.toInt64 h.1⟩
  · have e : r_X7_end p0 p1 T = (0, th 1 T) := by
      unfold r_X7_end
      rw [nc1 f1, rfs1, q1c]
      try rfl
    rw [e]
    exact ⟨hR, rfl, fun h => absurd h (by decide)⟩
