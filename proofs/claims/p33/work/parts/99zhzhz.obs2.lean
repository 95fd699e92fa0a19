/-! what is asked of cells: first -/
theorem none0 {a b : Int32} (T : sM) (g0 : ¬ a < 0 ∧ ¬ 8 ≤ a) (g1 : ¬ b < 0 ∧ ¬ 8 ≤ b) : r_X7_areNone a b T = (0, th 0 T) := by
  unfold r_X7_areNone
  rw [nc0 g0, it0, nc0 g1, it0, rfs0]
  try rfl
theorem none1 {a b : Int32} (T : sM) (f0 : a < 0 ∨ 8 ≤ a) : r_X7_areNone a b T = (1, th 1 T) := by
  unfold r_X7_areNone
  rw [nc1 f0, it1, rfs1]
  try rfl
theorem none2 {a b : Int32} (T : sM) (g0 : ¬ a < 0 ∧ ¬ 8 ≤ a) (f1 : b < 0 ∨ 8 ≤ b) : r_X7_areNone a b T = (1, th 1 T) := by
  unfold r_X7_areNone
  rw [nc0 g0, it0, nc1 f1, it1, rfs1]
  try rfl
theorem unk0 {a : Int32} {T : sM} (g0 : ¬ a < 0 ∧ ¬ 8 ≤ a) (h : T.1 a.toNatClampNeg ≤ 1) : r_X7_isUnkept a T = (0, th 0 T) := by
  unfold r_X7_isUnkept
  rw [nc0 g0, it0, if_pos h, rfs0]
  try rfl
theorem unk2 {a : Int32} {T : sM} (g0 : ¬ a < 0 ∧ ¬ 8 ≤ a) (h : ¬ T.1 a.toNatClampNeg ≤ 1) : r_X7_isUnkept a T = (1, th 2 T) := by
  unfold r_X7_isUnkept
  rw [nc0 g0, it0, if_neg h, rfs2]
  try rfl
theorem unk1 {a : Int32} (T : sM) (f0 : a < 0 ∨ 8 ≤ a) : r_X7_isUnkept a T = (1, th 1 T) := by
  unfold r_X7_isUnkept
  rw [nc1 f0, it1, rfs1, rfs1]
  split <;> rfl
theorem of_e (a : Int32) (T X : sM) : (if T.1 a.toNatClampNeg = 1 then (if T.2.2.1 a.toNatClampNeg = 0 then ((1000 : Int32), X) else ((-1000 : Int32), X)) else (T.2.1 a.toNatClampNeg, X)) = (qx (T.1 a.toNatClampNeg) (T.2.1 a.toNatClampNeg) (T.2.2.1 a.toNatClampNeg), X) := by
  unfold qx
  by_cases h1 : T.1 a.toNatClampNeg = 1
  · rw [if_pos h1, if_pos h1]
    by_cases h2 : T.2.2.1 a.toNatClampNeg = 0
    · rw [if_pos h2, if_pos h2]
    · rw [if_neg h2, if_neg h2]
  · rw [if_neg h1, if_neg h1]
theorem low_v0 : vall (fun kd q u => decide (sgx kd q u = if u = 0 then (if kd = 1 then 0 else if vTr kd q < 2 ^ 351 then 0 else 1) else 1)) = true := by decide +kernel
theorem low_v {kd q u : Int32} (h : vq kd q u) : sgx kd q u = if u = 0 then (if kd = 1 then 0 else if vTr kd q < 2 ^ 351 then 0 else 1) else 1 := of_decide_eq_true (vall_e low_v0 h)
theorem low_e {a : Int32} {T : sM} {X : sM} (h : vq (T.1 a.toNatClampNeg) (T.2.1 a.toNatClampNeg) (T.2.2.1 a.toNatClampNeg)) : (if T.2.2.1 a.toNatClampNeg = 0 then (if T.1 a.toNatClampNeg = 1 then ((0 : Int32), X) else if 0 ≤ (r_X7_trueOf (T.1 a.toNatClampNeg) (T.2.1 a.toNatClampNeg) X) (10 : Int32).toNatClampNeg then (0, X) else (1, X)) else (1, X)) = (sgx (T.1 a.toNatClampNeg) (T.2.1 a.toNatClampNeg) (T.2.2.1 a.toNatClampNeg), X) := by
  rw [low_v h]
  have e10 : (10 : Int32).toNatClampNeg = 10 := rfl
  rw [e10]
  have s := sg_v (r_X7_trueOf (T.1 a.toNatClampNeg) (T.2.1 a.toNatClampNeg) X)
  rw [true_v X (vq_t h)] at s
  by_cases h1 : T.2.2.1 a.toNatClampNeg = 0
  · rw [if_pos h1, if_pos h1]
    by_cases h2 : T.1 a.toNatClampNeg = 1
    · rw [if_pos h2, if_pos h2]
    · rw [if_neg h2, if_neg h2]
      by_cases h3 : vTr (T.1 a.toNatClampNeg) (T.2.1 a.toNatClampNeg) < 2 ^ 351
      · rw [if_pos (s.mpr h3), if_pos h3]
      · rw [if_neg (fun z => h3 (s.mp z)), if_neg h3]
  · rw [if_neg h1, if_neg h1]
theorem nou_v0 : vall (fun kd q u => decide (f_X2_isNought (enc kd q u) = if kd = 0 then (if q = 0 then 1 else 0) else 0)) = true := by decide +kernel
theorem nou_v {a : Int32} {T : sM} (h : vq (T.1 a.toNatClampNeg) (T.2.1 a.toNatClampNeg) (T.2.2.1 a.toNatClampNeg)) : f_X2_isNought (enc (T.1 a.toNatClampNeg) (T.2.1 a.toNatClampNeg) (T.2.2.1 a.toNatClampNeg)) = r_X7_isNought a T := of_decide_eq_true (vall_e nou_v0 h)
theorem bo_e {x : Int32} {X : sM} (h : x = 0 ∨ x = 1) : (if x = 0 then ((0 : Int32), X) else (1, X)) = (x, X) := by
  rcases h with rfl | rfl
  · rfl
  · rfl
/-- near ones -/
def nX (a a' : Int32) (e : Bool) : Int32 := if a = a' then 0 else if e = true then (if (if a = 0 then (1 : Int32) else if a = 5 then 1 else if a = 6 then 1 else 0) = 0 then 0 else if (if a' = 0 then (1 : Int32) else if a' = 5 then 1 else if a' = 6 then 1 else 0) = 0 then 0 else 1) else 0
def nM (a a' : Int32) (e : Bool) : Int32 := if a = 0 then (if a' ≤ 4 then (if a' = 0 then (if a ≤ 4 then 0 else if e = true then 1 else 0) else 0) else if a' = 0 then (if a ≤ 4 then (if e = true then 1 else 0) else if e = true then 1 else 0) else if e = true then 1 else 0) else if a' = 0 then (if a ≤ 4 then 0 else if e = true then 1 else 0) else 0
theorem nX_0 : ∀ i : Nat, i < 7 → ∀ j : Nat, j < 7 → ∀ e e' : Bool, (!(i == 1 || j == 1 || e == e') || (e && ((i == 5 && j == 6) || (i == 6 && j == 5))) || nX (Int32.ofNat i) (Int32.ofNat j) e == nM (Int32.ofNat i) (Int32.ofNat j) e') = true := by decide +kernel
theorem nXM (i : Nat) (hi : i < 7) (j : Nat) (hj : j < 7) (e e' : Bool) (h : i = 1 ∨ j = 1 ∨ e = e') (g : e = true → ¬ (i = 5 ∧ j = 6) ∧ ¬ (i = 6 ∧ j = 5)) : nX (Int32.ofNat i) (Int32.ofNat j) e = nM (Int32.ofNat i) (Int32.ofNat j) e' := by
  have := nX_0 i hi j hj e e'
  simp only [Bool.or_eq_true, Bool.and_eq_true, Bool.not_eq_true', Bool.or_eq_false_iff, beq_iff_eq, beq_eq_false_iff_ne] at this
  rcases this with (⟨⟨h1, h2⟩, h3⟩ | ⟨h1, h2⟩) | h1
  · rcases h with h | h | h
    · exact absurd h h1
    · exact absurd h h2
    · exact absurd h h3
  · exact absurd h2 (not_or.mpr (g h1))
  · exact h1
theorem nM_0 : ∀ i : Nat, i < 7 → ∀ j : Nat, j < 7 → ∀ e : Bool, (nM (Int32.ofNat i) (Int32.ofNat j) e == 0 || (e && ((i == 0 && (j == 5 || j == 6)) || (j == 0 && (i == 5 || i == 6))))) = true := by decide +kernel
theorem nM_1 (i : Nat) (hi : i < 7) (j : Nat) (hj : j < 7) (e : Bool) (h : nM (Int32.ofNat i) (Int32.ofNat j) e ≠ 0) : e = true ∧ ((i = 0 ∧ (j = 5 ∨ j = 6)) ∨ (j = 0 ∧ (i = 5 ∨ i = 6))) := by
  have := nM_0 i hi j hj e
  simp only [Bool.or_eq_true, Bool.and_eq_true, beq_iff_eq] at this
  exact this.resolve_left h
theorem v56 {q u u' : Int32} (v5 : vq 5 q u) (v6 : vq 6 q u') : False := by
  rcases v5 with ⟨z, _⟩ | ⟨z, _⟩ | ⟨z, _⟩ | ⟨z, _⟩ | ⟨z, _⟩ | ⟨_, _, z, _⟩ | ⟨z, _⟩
  · exact absurd z (by decide)
  · exact absurd z (by decide)
  · exact absurd z (by decide)
  · exact absurd z (by decide)
  · exact absurd z (by decide)
  · rcases v6 with ⟨y, _⟩ | ⟨y, _⟩ | ⟨y, _⟩ | ⟨y, _⟩ | ⟨y, _⟩ | ⟨y, _⟩ | ⟨_, y, _⟩
    · exact absurd y (by decide)
    · exact absurd y (by decide)
    · exact absurd y (by decide)
    · exact absurd y (by decide)
    · exact absurd y (by decide)
    · exact absurd y (by decide)
    · omega
  · exact absurd z (by decide)
theorem kd7 {kd q u : Int32} (h : vq kd q u) : ∃ i : Nat, i < 7 ∧ kd = Int32.ofNat i := by
  rcases h with ⟨h, _⟩ | ⟨h, _⟩ | ⟨h, _⟩ | ⟨h, _⟩ | ⟨h, _⟩ | ⟨h, _⟩ | ⟨h, _⟩
  · exact ⟨0, by decide, h⟩
  · exact ⟨1, by decide, h⟩
  · exact ⟨2, by decide, h⟩
  · exact ⟨3, by decide, h⟩
  · exact ⟨4, by decide, h⟩
  · exact ⟨5, by decide, h⟩
  · exact ⟨6, by decide, h⟩
theorem ofN_1 : ∀ i : Nat, i < 7 → Int32.ofNat i = 1 → i = 1 := by decide +kernel
theorem near_X {a b c a' b' c' : Int32} (h : vq a b c) (h' : vq a' b' c') : f_X2_areNear (enc a b c) (enc a' b' c') = nX a a' (decide (qx a b c = qx a' b' c')) := by
  obtain ⟨x1, x2, x3⟩ := enc_v h
  obtain ⟨y1, y2, y3⟩ := enc_v h'
  unfold f_X2_areNear f_X2_hasQuarterAsTrue nX
  rw [x1, x2, y1, y2]
  by_cases e : qx a b c = qx a' b' c'
  · rw [if_pos e, if_pos (decide_eq_true e)]
  · rw [if_neg e, if_neg (fun z => e (of_decide_eq_true z))]
theorem near_M {a b : Int32} (T : sM) : r_X7_areNear a b T = nM (T.1 a.toNatClampNeg) (T.1 b.toNatClampNeg) (decide (T.2.1 a.toNatClampNeg = T.2.1 b.toNatClampNeg)) := by
  unfold r_X7_areNear nM
  by_cases e : T.2.1 a.toNatClampNeg = T.2.1 b.toNatClampNeg
  · rw [if_pos e, if_pos (decide_eq_true e)]
  · rw [if_neg e, if_neg (fun z => e (of_decide_eq_true z))]
theorem near_v {a b : Int32} {T : sM} (h : vq (T.1 a.toNatClampNeg) (T.2.1 a.toNatClampNeg) (T.2.2.1 a.toNatClampNeg)) (h' : vq (T.1 b.toNatClampNeg) (T.2.1 b.toNatClampNeg) (T.2.2.1 b.toNatClampNeg)) : f_X2_areNear (enc (T.1 a.toNatClampNeg) (T.2.1 a.toNatClampNeg) (T.2.2.1 a.toNatClampNeg)) (enc (T.1 b.toNatClampNeg) (T.2.1 b.toNatClampNeg) (T.2.2.1 b.toNatClampNeg)) = r_X7_areNear a b T := by
  rw [near_X h h', near_M]
  obtain ⟨i, hi, ei⟩ := kd7 h
  obtain ⟨j, hj, ej⟩ := kd7 h'
  have q1 : ∀ {kd q u : Int32}, ¬ kd = 1 → qx kd q u = q := fun z => by
    unfold qx
    exact if_neg z
  have g56 : decide (qx (T.1 a.toNatClampNeg) (T.2.1 a.toNatClampNeg) (T.2.2.1 a.toNatClampNeg) = qx (T.1 b.toNatClampNeg) (T.2.1 b.toNatClampNeg) (T.2.2.1 b.toNatClampNeg)) = true → ¬ (i = 5 ∧ j = 6) ∧ ¬ (i = 6 ∧ j = 5) := fun z => by
    have z := of_decide_eq_true z
    refine ⟨fun y => ?_, fun y => ?_⟩
    · rw [y.1] at ei
      rw [y.2] at ej
      have e5 : T.1 a.toNatClampNeg = 5 := ei
      have e6 : T.1 b.toNatClampNeg = 6 := ej
      rw [e5] at h z
      rw [e6] at h' z
      rw [q1 (by decide), q1 (by decide)] at z
      rw [z] at h
      exact v56 h h'
    · rw [y.1] at ei
      rw [y.2] at ej
      have e5 : T.1 a.toNatClampNeg = 6 := ei
      have e6 : T.1 b.toNatClampNeg = 5 := ej
      rw [e5] at h z
      rw [e6] at h' z
      rw [q1 (by decide), q1 (by decide)] at z
      rw [z] at h
      exact v56 h' h
  have e1 : i = 1 ∨ j = 1 ∨ decide (qx (T.1 a.toNatClampNeg) (T.2.1 a.toNatClampNeg) (T.2.2.1 a.toNatClampNeg) = qx (T.1 b.toNatClampNeg) (T.2.1 b.toNatClampNeg) (T.2.2.1 b.toNatClampNeg)) = decide (T.2.1 a.toNatClampNeg = T.2.1 b.toNatClampNeg) := by
    by_cases i1 : i = 1
    · exact Or.inl i1
    · by_cases j1 : j = 1
      · exact Or.inr (Or.inl j1)
      · refine Or.inr (Or.inr ?_)
        rw [q1 (fun z => i1 (ofN_1 i hi (ei ▸ z))), q1 (fun z => j1 (ofN_1 j hj (ej ▸ z)))]
  have key := nXM i hi j hj _ _ e1 g56
  rw [← ei, ← ej] at key
  exact key
theorem near_S {S : sX} {T : sM} (hR : Rw0 S T) (hI : IM T) {a b : Int32} (ha : vp_in a 8) (hb : vp_in b 8) : f_X2_areNear (S.1 a.toNatClampNeg) (S.1 b.toNatClampNeg) = r_X7_areNear a b T := by
  rw [hR.1 _ (vp_lt ha), hR.1 _ (vp_lt hb)]
  exact near_v (hI _ (vp_lt ha)) (hI _ (vp_lt hb))
theorem alike_S {S : sX} {T : sM} (hR : Rw0 S T) (hI : IM T) {a b : Int32} (ha : vp_in a 8) (hb : vp_in b 8) : (if S.1 a.toNatClampNeg = S.1 b.toNatClampNeg then (1 : Int32) else 0) = r_X7_areAlike a b T := by
  rw [hR.1 _ (vp_lt ha), hR.1 _ (vp_lt hb)]
  unfold r_X7_areAlike
  have va := hI _ (vp_lt ha)
  have vb := hI _ (vp_lt hb)
  by_cases h1 : T.1 a.toNatClampNeg = T.1 b.toNatClampNeg
  · rw [if_pos h1]
    by_cases h2 : T.2.1 a.toNatClampNeg = T.2.1 b.toNatClampNeg
    · rw [if_pos h2]
      by_cases h3 : T.2.2.1 a.toNatClampNeg = T.2.2.1 b.toNatClampNeg
      · rw [if_pos h3, if_pos (by rw [h1, h2, h3])]
      · rw [if_neg h3, if_neg (fun z => h3 (enc_inj va vb z).2.2)]
    · rw [if_neg h2, if_neg (fun z => h2 (enc_inj va vb z).2.1)]
  · rw [if_neg h1, if_neg (fun z => h1 (enc_inj va vb z).1)]
/-- which cell has one alike -/
theorem find_v {S : sX} {T : sM} {c l : Int32} (hR : Rw0 S T) (hI : IM T) (hc : vp_in c 8) : ∀ (fu : Nat) (f k : Int32), ¬ k < 0 → ((8 : Int32).toInt - k.toInt).toNat < fu → lr_X5_find_9 c l fu f k S = (lf_X7_find_19 c l fu f k T).1
  | 0, _, _, _, h => absurd h (Nat.not_lt_zero _)
  | fu + 1, f, k, hk, h => by
    rw [lr_X5_find_9, lf_X7_find_19]
    by_cases z : 8 ≤ k
    · rw [if_pos z, if_pos z]
    · rw [if_neg z, if_neg z]
      have n8 := qm_in8 hk z
      have i1 := find_v (c := c) (l := l) hR hI hc fu f (k + 1) (qm_pos hk z) (qm_up z h)
      have i2 := find_v (c := c) (l := l) hR hI hc fu k (k + 1) (qm_pos hk z) (qm_up z h)
      rw [← alike_S hR hI n8 hc]
      by_cases e : S.1 k.toNatClampNeg = S.1 c.toNatClampNeg
      · rw [if_pos e, if_pos e, it1]
        by_cases e0 : l = 0
        · rw [if_pos e0, if_pos e0]
          by_cases e1 : f ≤ k
          · rw [if_pos e1, if_pos e1]; exact i1
          · rw [if_neg e1, if_neg e1]; exact i2
        · rw [if_neg e0, if_neg e0]
          by_cases e1 : k ≤ f
          · rw [if_pos e1, if_pos e1]; exact i1
          · rw [if_neg e1, if_neg e1]; exact i2
      · rw [if_neg e, if_neg e, it0]
        exact i1
theorem rank_v {S : sX} {T : sM} {c : Int32} (hR : Rw0 S T) (hI : IM T) (hc : vp_in c 8) : ∀ (fu : Nat) (n k : Int32), ¬ k < 0 → ((8 : Int32).toInt - k.toInt).toNat < fu → lr_X5_rank_8 c fu n k S = (lf_X7_rank_18 c fu n k T).1
  | 0, _, _, _, h => absurd h (Nat.not_lt_zero _)
  | fu + 1, n, k, hk, h => by
    rw [lr_X5_rank_8, lf_X7_rank_18]
    by_cases z : 8 ≤ k
    · rw [if_pos z, if_pos z]
    · rw [if_neg z, if_neg z]
      have n8 := qm_in8 hk z
      rw [ordXM hR hI n8 hc]
      by_cases e : 0 ≤ r_X7_orderOf k c T
      · rw [if_pos e, if_pos e, Int32.add_zero]
        exact rank_v hR hI hc fu n (k + 1) (qm_pos hk z) (qm_up z h)
      · rw [if_neg e, if_neg e]
        exact rank_v hR hI hc fu (n + 1) (k + 1) (qm_pos hk z) (qm_up z h)
/-- how far near ones are -/
def mostT (q : Int32) : Int32 := if q ≤ -4 then (upd (upd (upd (upd (upd (upd (upd (fun _ => 0) (0 : Int32).toNatClampNeg 2) (1 : Int32).toNatClampNeg 2) (2 : Int32).toNatClampNeg 5) (3 : Int32).toNatClampNeg 6) (4 : Int32).toNatClampNeg 10) (5 : Int32).toNatClampNeg 53) (6 : Int32).toNatClampNeg 124) ((-q - 5) / 4).toNatClampNeg else 2
theorem most_1 : vall (fun kd q u => decide (¬ kd = 5 ∧ ¬ kd = 6) || (decide (f_X2_mostSteps q = mostT q) && (decide (0 < mostT q) && decide (f_X1_digitsOf (enc kd q u) = f_X1_digitsOf (enc 0 q 0))))) = true := by decide +kernel
theorem ofN_56 : ∀ i : Nat, i = 5 ∨ i = 6 → Int32.ofNat i = 5 ∨ Int32.ofNat i = 6 := fun i h => by
  rcases h with rfl | rfl
  · exact Or.inl rfl
  · exact Or.inr rfl
theorem most_v {kd q u : Int32} (h : vq kd q u) (h5 : kd = 5 ∨ kd = 6) : f_X2_mostSteps q = mostT q ∧ 0 < mostT q ∧ f_X1_digitsOf (enc kd q u) = f_X1_digitsOf (enc 0 q 0) := by
  rcases Bool.or_eq_true_iff.mp (vall_e most_1 h) with e | e
  · have := of_decide_eq_true e
    rcases h5 with h5 | h5
    · exact absurd h5 this.1
    · exact absurd h5 this.2
  · obtain ⟨e1, e2⟩ := Bool.and_eq_true_iff.mp e
    obtain ⟨e3, e4⟩ := Bool.and_eq_true_iff.mp e2
    exact ⟨of_decide_eq_true e1, of_decide_eq_true e3, of_decide_eq_true e4⟩
theorem vq_0z {q u : Int32} (h : vq 0 q u) (hq : ¬ q = 0) : u = 0 := vq_n h (by decide) hq
theorem q56 {kd q u : Int32} (h : vq kd q u) (h5 : kd = 5 ∨ kd = 6) : ¬ q = 0 := by
  rcases h5 with rfl | rfl
  · intro z
    rcases h with ⟨h, _⟩ | ⟨h, _⟩ | ⟨h, _⟩ | ⟨h, _⟩ | ⟨h, _⟩ | ⟨_, _, h, _⟩ | ⟨h, _⟩
    · exact absurd h (by decide)
    · exact absurd h (by decide)
    · exact absurd h (by decide)
    · exact absurd h (by decide)
    · exact absurd h (by decide)
    · rw [z] at h; exact absurd h (by decide)
    · exact absurd h (by decide)
  · rcases h with ⟨h, _⟩ | ⟨h, _⟩ | ⟨h, _⟩ | ⟨h, _⟩ | ⟨h, _⟩ | ⟨h, _⟩ | ⟨_, _, _, h, _⟩
    · exact absurd h (by decide)
    · exact absurd h (by decide)
    · exact absurd h (by decide)
    · exact absurd h (by decide)
    · exact absurd h (by decide)
    · exact absurd h (by decide)
    · exact h
/-- of two near ones: the quarters, the steps, the digits -/
theorem near_q {a b : Int32} {T : sM} (h : vq (T.1 a.toNatClampNeg) (T.2.1 a.toNatClampNeg) (T.2.2.1 a.toNatClampNeg)) (h' : vq (T.1 b.toNatClampNeg) (T.2.1 b.toNatClampNeg) (T.2.2.1 b.toNatClampNeg)) (n : ¬ r_X7_areNear a b T = 0) : f_X2_mostSteps (T.2.1 a.toNatClampNeg) = mostT (T.2.1 a.toNatClampNeg) ∧ 0 < mostT (T.2.1 a.toNatClampNeg) ∧ ¬ T.1 a.toNatClampNeg = 1 ∧ f_X1_digitsOf (enc (T.1 a.toNatClampNeg) (T.2.1 a.toNatClampNeg) (T.2.2.1 a.toNatClampNeg)) = f_X1_digitsOf (enc (T.1 b.toNatClampNeg) (T.2.1 b.toNatClampNeg) (T.2.2.1 b.toNatClampNeg)) := by
  rw [near_M] at n
  obtain ⟨i, hi, ei⟩ := kd7 h
  obtain ⟨j, hj, ej⟩ := kd7 h'
  rw [ei, ej] at n
  obtain ⟨e, o⟩ := nM_1 i hi j hj _ n
  have eq := of_decide_eq_true e
  rcases o with ⟨i0, j5⟩ | ⟨j0, i5⟩
  · have k5 : T.1 b.toNatClampNeg = 5 ∨ T.1 b.toNatClampNeg = 6 := by rw [ej]; exact ofN_56 j j5
    have a0 : T.1 a.toNatClampNeg = 0 := by rw [ei, i0]; rfl
    obtain ⟨m1, m2, m3⟩ := most_v h' k5
    have nz := q56 h' k5
    rw [a0] at h ⊢
    rw [m3]
    have ua := vq_0z h (by rw [eq]; exact nz)
    rw [ua, eq]
    exact ⟨m1, m2, by decide, rfl⟩
  · have k5 : T.1 a.toNatClampNeg = 5 ∨ T.1 a.toNatClampNeg = 6 := by rw [ei]; exact ofN_56 i i5
    have b0 : T.1 b.toNatClampNeg = 0 := by rw [ej, j0]; rfl
    obtain ⟨m1, m2, m3⟩ := most_v h k5
    have nz := q56 h k5
    rw [b0] at h' ⊢
    rw [m3]
    have ub := vq_0z h' (by rw [← eq]; exact nz)
    rw [ub, ← eq]
    refine ⟨m1, m2, fun z => ?_, rfl⟩
    rcases k5 with k | k
    · rw [k] at z; exact absurd z (by decide)
    · rw [k] at z; exact absurd z (by decide)
theorem within_1 {w v : Int64} {q : Int32} (h : w = v) (hq : 0 < f_X2_mostSteps q) : ¬ (f_X2_mostSteps q).toInt64 < f_X1_steps w v := by
  rw [h]
  have e : f_X1_steps v v = 0 := by
    unfold f_X1_steps
    rw [Int64.sub_self]
    decide
  rw [e, Int64.lt_iff_toInt_lt, Int32.toInt_toInt64]
  rw [Int32.lt_iff_toInt_lt] at hq
  have e0 : (0 : Int32).toInt = 0 := rfl
  have e1 : (0 : Int64).toInt = 0 := rfl
  omega
theorem within_v {S : sX} {T : sM} (hR : Rw0 S T) (hI : IM T) {a b : Int32} (ha : vp_in a 8) (hb : vp_in b 8) (n : ¬ r_X7_areNear a b T = 0) : f_X5_areWithin (S.1 a.toNatClampNeg) (S.1 b.toNatClampNeg) = 1 := by
  obtain ⟨m1, m2, m3, m4⟩ := near_q (hI _ (vp_lt ha)) (hI _ (vp_lt hb)) n
  unfold f_X5_areWithin
  rw [hR.1 _ (vp_lt ha), hR.1 _ (vp_lt hb), (enc_v (hI _ (vp_lt ha))).2.1]
  have e : qx (T.1 a.toNatClampNeg) (T.2.1 a.toNatClampNeg) (T.2.2.1 a.toNatClampNeg) = T.2.1 a.toNatClampNeg := by
    unfold qx
    rw [if_neg m3]
  rw [e, if_neg (within_1 m4 (by rw [m1]; exact m2))]
