/-! all cells anew: row, wipe -/
theorem ofn {i : Int32} (h : ¬ i < 0) : Int32.ofNat i.toNatClampNeg = i := by
  have es : Int32.size = 4294967296 := rfl
  have e0 : (0 : Int32).toInt = 0 := rfl
  have u := Int32.toInt_lt i
  rw [Int32.lt_iff_toInt_lt] at h
  apply Int32.toInt_inj.mp
  show (Int32.ofNat i.toInt.toNat).toInt = i.toInt
  rw [Int32.toInt_ofNat', Int.bmod_eq_of_le (by omega) (by omega)]
  omega
theorem nx_n {i : Int32} (h : ¬ i < 0) (c : ¬ 8 ≤ i) : (i + 1).toNatClampNeg = i.toNatClampNeg + 1 := by
  have e := qm_inc c
  have e0 : (0 : Int32).toInt = 0 := rfl
  rw [Int32.lt_iff_toInt_lt] at h
  show (i + 1).toInt.toNat = i.toInt.toNat + 1
  omega
theorem ge8 {i : Int32} (c : 8 ≤ i) : 8 ≤ i.toNatClampNeg := by
  rw [Int32.le_iff_toInt_le] at c
  have e8 : (8 : Int32).toInt = 8 := rfl
  show 8 ≤ i.toInt.toNat
  omega
/-- what stays, and how many are others -/
theorem rem_2 : ∀ (fu : Nat) (i : Int32) (S : sX), ¬ i < 0 → ((8 : Int32).toInt - i.toInt).toNat < fu → (lr_X5_remember_2 fu i S).1 = S.1 ∧ (lr_X5_remember_2 fu i S).2.1 = S.2.1 ∧ (lr_X5_remember_2 fu i S).2.2.2 = S.2.2.2 ∧ ∀ j : Nat, j < 8 → (lr_X5_remember_2 fu i S).2.2.1 j = if i.toNatClampNeg ≤ j then S.1 j else S.2.2.1 j
  | 0, _, _, _, h => absurd h (Nat.not_lt_zero _)
  | fu + 1, i, S, hi, h => by
    rw [lr_X5_remember_2]
    by_cases c : 8 ≤ i
    · rw [if_pos c]
      have := ge8 c
      exact ⟨rfl, rfl, rfl, fun j hj => (if_neg (by omega)).symm⟩
    · rw [if_neg c]
      obtain ⟨a1, a2, a3, a4⟩ := rem_2 fu (i + 1) (S.1, S.2.1, upd S.2.2.1 i.toNatClampNeg (S.1 i.toNatClampNeg), S.2.2.2.1, S.2.2.2.2.1, S.2.2.2.2.2) (qm_pos hi c) (qm_up c h)
      refine ⟨a1, a2, a3, fun j hj => (a4 j hj).trans ?_⟩
      rw [nx_n hi c]
      show (if i.toNatClampNeg + 1 ≤ j then S.1 j else upd S.2.2.1 i.toNatClampNeg (S.1 i.toNatClampNeg) j) = _
      by_cases e : j = i.toNatClampNeg
      · rw [e, if_neg (by omega), upd_same, if_pos (Nat.le_refl _)]
      · rw [upd_ne _ _ e]
        by_cases e2 : i.toNatClampNeg ≤ j
        · rw [if_pos e2, if_pos (by omega)]
        · rw [if_neg e2, if_neg (by omega)]
theorem rem_v (S : sX) : (r_X5_remember S).1 = S.1 ∧ (r_X5_remember S).2.1 = S.2.1 ∧ (r_X5_remember S).2.2.2 = S.2.2.2 ∧ ∀ j : Nat, j < 8 → (r_X5_remember S).2.2.1 j = S.1 j := by
  obtain ⟨a1, a2, a3, a4⟩ := rem_2 9 0 S (by decide) (by decide)
  exact ⟨a1, a2, a3, fun j hj => (a4 j hj).trans (if_pos (Nat.zero_le _))⟩
theorem chg_4 {Z : sX} {T : sM} {g1 g2 g3 : qR} (h1 : ∀ j : Nat, j < 8 → Z.1 j = enc (T.1 j) (T.2.1 j) (T.2.2.1 j)) (v1 : IM T) (h2 : ∀ j : Nat, j < 8 → Z.2.2.1 j = enc (g1 j) (g2 j) (g3 j)) (v2 : ∀ j : Nat, j < 8 → vq (g1 j) (g2 j) (g3 j)) : ∀ (fu : Nat) (n k : Int32), ¬ k < 0 → ((8 : Int32).toInt - k.toInt).toNat < fu → lr_X5_changedCells_4 fu n k Z = (lf_X7_others_6 g1 g2 g3 fu n k T).1
  | 0, _, _, _, h => absurd h (Nat.not_lt_zero _)
  | fu + 1, n, k, hk, h => by
    rw [lr_X5_changedCells_4, lf_X7_others_6]
    by_cases c : 8 ≤ k
    · rw [if_pos c, if_pos c]
    · rw [if_neg c, if_neg c]
      have i0 := chg_4 h1 v1 h2 v2 fu n (k + 1) (qm_pos hk c) (qm_up c h)
      have i1 := chg_4 h1 v1 h2 v2 fu (n + 1) (k + 1) (qm_pos hk c) (qm_up c h)
      have h8 := vp_lt (qm_in8 hk c)
      have e0 : n + 0 = n := Int32.add_zero n
      rw [h1 _ h8, h2 _ h8, e0]
      by_cases x1 : T.1 k.toNatClampNeg = g1 k.toNatClampNeg
      · rw [if_pos x1]
        by_cases x2 : T.2.1 k.toNatClampNeg = g2 k.toNatClampNeg
        · rw [if_pos x2]
          by_cases x3 : T.2.2.1 k.toNatClampNeg = g3 k.toNatClampNeg
          · rw [if_pos x3, x1, x2, x3, if_pos rfl]
            exact i0
          · rw [if_neg x3, if_neg (fun z => x3 (enc_inj (v1 _ h8) (v2 _ h8) z).2.2)]
            exact i1
        · rw [if_neg x2, if_neg (fun z => x2 (enc_inj (v1 _ h8) (v2 _ h8) z).2.1)]
          exact i1
      · rw [if_neg x1, if_neg (fun z => x1 (enc_inj (v1 _ h8) (v2 _ h8) z).1)]
        exact i1
theorem chg_v {Z : sX} {T T0 : sM} (h1 : ∀ j : Nat, j < 8 → Z.1 j = enc (T.1 j) (T.2.1 j) (T.2.2.1 j)) (v1 : IM T) (h2 : ∀ j : Nat, j < 8 → Z.2.2.1 j = enc (T0.1 j) (T0.2.1 j) (T0.2.2.1 j)) (v2 : IM T0) : r_X5_changedCells Z = r_X7_others T0.1 T0.2.1 T0.2.2.1 T := chg_4 h1 v1 h2 v2 9 0 0 (by decide) (by decide)
def rvq (f b : Int32) (j : Nat) : Int32 := f + Int32.ofNat j * b
theorem row_X (f b : Int32) : ∀ (fu : Nat) (i : Int32) (S : sX), ¬ i < 0 → ((8 : Int32).toInt - i.toInt).toNat < fu → ∃ Z : sX, lr_X5_row_41 f b fu i S = r_X5_countAct (r_X5_changedCells Z) Z ∧ (∀ j : Nat, j < 8 → Z.1 j = if i.toNatClampNeg ≤ j then f_X2_quarters (rvq f b j) else S.1 j) ∧ (∀ j : Nat, j < 8 → Z.2.1 j = if i.toNatClampNeg ≤ j then f_X1_digitsOf (f_X2_quarters (rvq f b j)) else S.2.1 j) ∧ Z.2.2 = S.2.2
  | 0, _, _, _, h => absurd h (Nat.not_lt_zero _)
  | fu + 1, i, S, hi, h => by
    rw [lr_X5_row_41]
    by_cases c : 8 ≤ i
    · rw [if_pos c]
      have := ge8 c
      exact ⟨S, rfl, fun j hj => (if_neg (by omega)).symm, fun j hj => (if_neg (by omega)).symm, rfl⟩
    · rw [if_neg c]
      obtain ⟨Z, a1, a2, a3, a4⟩ := row_X f b fu (i + 1) (r_X5_place i (f_X2_quarters (f + (i * b))) S) (qm_pos hi c) (qm_up c h)
      refine ⟨Z, a1, fun j hj => (a2 j hj).trans ?_, fun j hj => (a3 j hj).trans ?_, a4⟩
      · rw [nx_n hi c]
        show (if i.toNatClampNeg + 1 ≤ j then f_X2_quarters (rvq f b j) else upd S.1 i.toNatClampNeg (f_X2_quarters (f + (i * b))) j) = _
        by_cases e : j = i.toNatClampNeg
        · rw [e, if_neg (by omega), upd_same, if_pos (Nat.le_refl _), rvq, ofn hi]
        · rw [upd_ne _ _ e]
          by_cases e2 : i.toNatClampNeg ≤ j
          · rw [if_pos e2, if_pos (by omega)]
          · rw [if_neg e2, if_neg (by omega)]
      · rw [nx_n hi c]
        show (if i.toNatClampNeg + 1 ≤ j then f_X1_digitsOf (f_X2_quarters (rvq f b j)) else vp_updL S.2.1 i.toNatClampNeg (f_X1_digitsOf (f_X2_quarters (f + (i * b)))) j) = _
        by_cases e : j = i.toNatClampNeg
        · rw [e, if_neg (by omega), updL_s, if_pos (Nat.le_refl _), rvq, ofn hi]
        · rw [updL_n _ _ e]
          by_cases e2 : i.toNatClampNeg ≤ j
          · rw [if_pos e2, if_pos (by omega)]
          · rw [if_neg e2, if_neg (by omega)]
theorem wipe_X : ∀ (fu : Nat) (i : Int32) (S : sX), ¬ i < 0 → ((8 : Int32).toInt - i.toInt).toNat < fu → ∃ Z : sX, lr_X5_wipe_6 fu i S = r_X5_countAct (r_X5_changedCells Z) Z ∧ (∀ j : Nat, j < 8 → Z.1 j = if i.toNatClampNeg ≤ j then f_X2_nought 0 else S.1 j) ∧ (∀ j : Nat, j < 8 → Z.2.1 j = if i.toNatClampNeg ≤ j then f_X1_digitsOf (f_X2_nought 0) else S.2.1 j) ∧ Z.2.2 = S.2.2
  | 0, _, _, _, h => absurd h (Nat.not_lt_zero _)
  | fu + 1, i, S, hi, h => by
    rw [lr_X5_wipe_6]
    by_cases c : 8 ≤ i
    · rw [if_pos c]
      have := ge8 c
      exact ⟨S, rfl, fun j hj => (if_neg (by omega)).symm, fun j hj => (if_neg (by omega)).symm, rfl⟩
    · rw [if_neg c]
      obtain ⟨Z, a1, a2, a3, a4⟩ := wipe_X fu (i + 1) (r_X5_place i (f_X2_nought 0) S) (qm_pos hi c) (qm_up c h)
      refine ⟨Z, a1, fun j hj => (a2 j hj).trans ?_, fun j hj => (a3 j hj).trans ?_, a4⟩
      · rw [nx_n hi c]
        show (if i.toNatClampNeg + 1 ≤ j then f_X2_nought 0 else upd S.1 i.toNatClampNeg (f_X2_nought 0) j) = _
        by_cases e : j = i.toNatClampNeg
        · rw [e, if_neg (by omega), upd_same, if_pos (Nat.le_refl _)]
        · rw [upd_ne _ _ e]
          by_cases e2 : i.toNatClampNeg ≤ j
          · rw [if_pos e2, if_pos (by omega)]
          · rw [if_neg e2, if_neg (by omega)]
      · rw [nx_n hi c]
        show (if i.toNatClampNeg + 1 ≤ j then f_X1_digitsOf (f_X2_nought 0) else vp_updL S.2.1 i.toNatClampNeg (f_X1_digitsOf (f_X2_nought 0)) j) = _
        by_cases e : j = i.toNatClampNeg
        · rw [e, if_neg (by omega), updL_s, if_pos (Nat.le_refl _)]
        · rw [updL_n _ _ e]
          by_cases e2 : i.toNatClampNeg ≤ j
          · rw [if_pos e2, if_pos (by omega)]
          · rw [if_neg e2, if_neg (by omega)]
/-- the model's new rows -/
theorem lay_v (f b : Int32) (g1 g2 g3 : qR) : ∀ (fu : Nat) (k : Int32) (X : sM), ¬ k < 0 → ((8 : Int32).toInt - k.toInt).toNat < fu → (lf_X7_lay_44 f b g1 g2 g3 fu k X).2.1 = X.1 ∧ (lf_X7_lay_44 f b g1 g2 g3 fu k X).2.2.2 = X.2.2 ∧ ∀ j : Nat, j < 8 → (lf_X7_lay_44 f b g1 g2 g3 fu k X).2.2.1 j = if k.toNatClampNeg ≤ j then rvq f b j else X.2.1 j
  | 0, _, _, _, h => absurd h (Nat.not_lt_zero _)
  | fu + 1, k, X, hk, h => by
    rw [lf_X7_lay_44]
    by_cases c : 8 ≤ k
    · rw [if_pos c]
      have := ge8 c
      exact ⟨rfl, rfl, fun j hj => (if_neg (by omega)).symm⟩
    · rw [if_neg c]
      obtain ⟨a1, a2, a4⟩ := lay_v f b g1 g2 g3 fu (k + 1) (X.1, upd X.2.1 k.toNatClampNeg (f + k * b), X.2.2.1, X.2.2.2.1, X.2.2.2.2.1, X.2.2.2.2.2.1, X.2.2.2.2.2.2) (qm_pos hk c) (qm_up c h)
      refine ⟨a1, a2, fun j hj => (a4 j hj).trans ?_⟩
      rw [nx_n hk c]
      show (if k.toNatClampNeg + 1 ≤ j then rvq f b j else upd X.2.1 k.toNatClampNeg (f + k * b) j) = _
      by_cases e : j = k.toNatClampNeg
      · rw [e, if_neg (by omega), upd_same, if_pos (Nat.le_refl _), rvq, ofn hk]
      · rw [upd_ne _ _ e]
        by_cases e2 : k.toNatClampNeg ≤ j
        · rw [if_pos e2, if_pos (by omega)]
        · rw [if_neg e2, if_neg (by omega)]
/-- both sides, when all cells have come anew -/
theorem rw_new {S Z : sX} {T X : sM} (hR : Rw S T) (hI : IM T) (hX : IM X) (z1 : ∀ j : Nat, j < 8 → Z.1 j = enc (X.1 j) (X.2.1 j) (X.2.2.1 j)) (z2 : ∀ j : Nat, j < 8 → Z.2.1 j = f_X1_digitsOf (Z.1 j)) (z3 : ∀ j : Nat, j < 8 → Z.2.2.1 j = S.1 j) (z4 : Z.2.2.2 = S.2.2.2) (x1 : X.2.2.2.1 = T.2.2.2.1 + 1) (x2 : X.2.2.2.2.1 = T.2.2.2.2.1) (x3 : X.2.2.2.2.2.1 = T.2.2.2.2.2.1) : (r_X5_countAct (r_X5_changedCells Z) Z).1 = r_X7_others T.1 T.2.1 T.2.2.1 X ∧ Rw (r_X5_countAct (r_X5_changedCells Z) Z).2 X := by
  refine ⟨chg_v z1 hX (fun j hj => (z3 j hj).trans (hR.1.1 j hj)) hI, ⟨z1, z2, ?_, ?_⟩, ?_⟩
  · show Z.2.2.2.2.1 = _
    rw [z4, x2]
    exact hR.1.2.2.1
  · show Z.2.2.2.2.2 = _
    rw [z4, x3]
    exact hR.1.2.2.2
  · show Z.2.2.2.1 + 1 = _
    rw [z4, x1, hR.2]
theorem rw_lay {S : sX} {T : sM} {f b : Int32} (hR : Rw S T) (hI : IM T) (hX : IM (r_X7_lay f b (th 0 T)).2) {Z : sX} (z1 : ∀ j : Nat, j < 8 → Z.1 j = enc 0 (rvq f b j) 0) (z2 : ∀ j : Nat, j < 8 → Z.2.1 j = f_X1_digitsOf (Z.1 j)) (z3 : ∀ j : Nat, j < 8 → Z.2.2.1 j = S.1 j) (z4 : Z.2.2.2 = S.2.2.2) : (r_X5_countAct (r_X5_changedCells Z) Z).1 = (r_X7_lay f b (th 0 T)).1 ∧ Rw (r_X5_countAct (r_X5_changedCells Z) Z).2 (r_X7_lay f b (th 0 T)).2 ∧ r_X7_thrown (r_X7_lay f b (th 0 T)).2 = 0 := by
  obtain ⟨a1, a2, a3⟩ := lay_v f b T.1 T.2.1 T.2.2.1 9 0 ((fun _ => 0), (fun _ => 0), (fun _ => 0), T.2.2.2.1, T.2.2.2.2.1, T.2.2.2.2.2.1, 0) (by decide) (by decide)
  have e1 : (r_X7_lay f b (th 0 T)).2.1 = fun _ => 0 := a1
  have e2 : ∀ j : Nat, j < 8 → (r_X7_lay f b (th 0 T)).2.2.1 j = rvq f b j := fun j hj => (a3 j hj).trans (if_pos (Nat.zero_le _))
  have e3 : (r_X7_lay f b (th 0 T)).2.2.2.1 = fun _ => 0 := congrArg (fun x => x.1) a2
  have e4 : (r_X7_lay f b (th 0 T)).2.2.2.2.1 = T.2.2.2.1 + 1 := congrArg (fun x => x.2.1 + 1) a2
  have e5 : (r_X7_lay f b (th 0 T)).2.2.2.2.2.1 = T.2.2.2.2.1 := congrArg (fun x => x.2.2.1) a2
  have e6 : (r_X7_lay f b (th 0 T)).2.2.2.2.2.2.1 = T.2.2.2.2.2.1 := congrArg (fun x => x.2.2.2.1) a2
  have e7 : (r_X7_lay f b (th 0 T)).2.2.2.2.2.2.2 = 0 := congrArg (fun x => x.2.2.2.2) a2
  have h := rw_new hR hI hX (fun j hj => by rw [z1 j hj, e1, e2 j hj, e3]) z2 z3 z4 e4 e5 e6
  exact ⟨h.1, h.2, e7⟩

theorem cw_row {S S1 : sX} {T : sM} {k0 : Int32} {n n0 : Int64} {p0 p1 : Int32} (hI : IM T) (hR : Rw S T) (D : (k0 = 0 ∧ (¬ p0 < -160 ∧ ¬ 160 < p0) ∧ (¬ p1 < -40 ∧ ¬ 40 < p1) ∧ S1 = (r_X5_row p0 p1 S).2 ∧ n0 = (r_X5_row p0 p1 S).1.toInt64) ∨ (k0 = 1 ∧ (p0 < -160 ∨ 160 < p0) ∧ S1 = S ∧ n0 = n) ∨ (k0 = 1 ∧ (¬ p0 < -160 ∧ ¬ 160 < p0) ∧ (p1 < -40 ∨ 40 < p1) ∧ S1 = S ∧ n0 = n)) : Rw S1 (r_X7_row p0 p1 T).2 ∧ r_X7_thrown (r_X7_row p0 p1 T).2 = k0 ∧ (k0 = 0 → n0 = (r_X7_row p0 p1 T).1.toInt64) := by
  rcases D with ⟨rfl, g0, g1, rfl, rfl⟩ | ⟨rfl, f0, rfl, rfl⟩ | ⟨rfl, g0, f1, rfl, rfl⟩
  · by_cases z : f_X7_isIn (p0 + (7 * p1)) (-160) 160 = 0
    · have e : r_X7_row p0 p1 T = r_X7_refused (th 0 T) := by
        unfold r_X7_row
        rw [in_1 g0, it1, in_1 g1, it1, if_pos z]
        try rfl
      have e2 : r_X5_row p0 p1 S = r_X5_refuse S := if_pos z
      rw [e, e2]
      have h := rw_rf (T := th 0 T) hR
      exact ⟨h.2, rfl, fun _ => congrArg Int32.toInt64 h.1⟩
    · have e : r_X7_row p0 p1 T = r_X7_lay p0 p1 (th 0 T) := by
        unfold r_X7_row
        rw [in_1 g0, it1, in_1 g1, it1, if_neg z]
        try rfl
      have hX : IM (r_X7_lay p0 p1 (th 0 T)).2 := by
        have := im_row p0 p1 hI
        rw [e] at this
        exact this
      obtain ⟨r1, r2, r3, r4⟩ := rem_v S
      obtain ⟨Z, a1, a2, a3, a4⟩ := row_X p0 p1 9 0 (r_X5_remember S) (by decide) (by decide)
      have z0 : ∀ j : Nat, j < 8 → Z.1 j = f_X2_quarters (rvq p0 p1 j) := fun j hj => (a2 j hj).trans (if_pos (Nat.zero_le _))
      have z1 : ∀ j : Nat, j < 8 → Z.1 j = enc 0 (rvq p0 p1 j) 0 := fun j hj => (z0 j hj).trans (enc_q _)
      have z2 : ∀ j : Nat, j < 8 → Z.2.1 j = f_X1_digitsOf (Z.1 j) := fun j hj => by rw [z0 j hj]; exact (a3 j hj).trans (if_pos (Nat.zero_le _))
      have z3 : ∀ j : Nat, j < 8 → Z.2.2.1 j = S.1 j := fun j hj => by rw [a4]; exact r4 j hj
      have z4 : Z.2.2.2 = S.2.2.2 := by rw [a4]; exact r3
      have h := rw_lay hR hI hX z1 z2 z3 z4
      have e2 : r_X5_row p0 p1 S = r_X5_countAct (r_X5_changedCells Z) Z := (if_neg z).trans a1
      rw [e, e2]
      exact ⟨h.2.1, h.2.2, fun _ => congrArg Int32.toInt64 h.1⟩
  · have e : r_X7_row p0 p1 T = (0, th 1 T) := by
      unfold r_X7_row
      rw [in_0 f0, it0]
      try rfl
    rw [e]
    exact ⟨hR, rfl, fun h => absurd h (by decide)⟩
  · have e : r_X7_row p0 p1 T = (0, th 1 T) := by
      unfold r_X7_row
      rw [in_1 g0, it1, in_0 f1, it0]
      try rfl
    rw [e]
    exact ⟨hR, rfl, fun h => absurd h (by decide)⟩
theorem rw_wipe {S : sX} {T : sM} (hR : Rw S T) (hI : IM T) : (r_X5_wipe S).1 = (r_X7_wipe T).1 ∧ Rw (r_X5_wipe S).2 (r_X7_wipe T).2 := by
    have hX : IM (r_X7_lay 0 0 (th 0 T)).2 := im_wipe T
    obtain ⟨r1, r2, r3, r4⟩ := rem_v S
    obtain ⟨Z, a1, a2, a3, a4⟩ := wipe_X 9 0 (r_X5_remember S) (by decide) (by decide)
    have z0 : ∀ j : Nat, j < 8 → Z.1 j = f_X2_nought 0 := fun j hj => (a2 j hj).trans (if_pos (Nat.zero_le _))
    have z1 : ∀ j : Nat, j < 8 → Z.1 j = enc 0 (rvq 0 0 j) 0 := fun j hj => (z0 j hj).trans (by rw [rvq, Int32.mul_zero, Int32.add_zero]; rfl)
    have z2 : ∀ j : Nat, j < 8 → Z.2.1 j = f_X1_digitsOf (Z.1 j) := fun j hj => by rw [z0 j hj]; exact (a3 j hj).trans (if_pos (Nat.zero_le _))
    have z3 : ∀ j : Nat, j < 8 → Z.2.2.1 j = S.1 j := fun j hj => by rw [a4]; exact r4 j hj
    have z4 : Z.2.2.2 = S.2.2.2 := by rw [a4]; exact r3
    have h := rw_lay hR hI hX z1 z2 z3 z4
    have e2 : r_X5_wipe S = r_X5_countAct (r_X5_changedCells Z) Z := a1
    rw [e2]
    exact ⟨h.1, h.2.1⟩
