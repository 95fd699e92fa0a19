/-! rows laid, sorted -/
theorem im_lay44 (f b : Int32) (g1 g2 g3 : Nat → Int32) (hr : ∀ k : Int32, vp_in k 8 → -160 ≤ (f + k * b).toInt ∧ (f + k * b).toInt ≤ 160) : ∀ (fu : Nat) (k : Int32) (S : sM), ¬ k < 0 → (∀ c : Nat, c < 8 → S.1 c = 0 ∧ S.2.2.1 c = 0 ∧ -160 ≤ (S.2.1 c).toInt ∧ (S.2.1 c).toInt ≤ 160) → IM (lf_X7_lay_44 f b g1 g2 g3 fu k S).2
  | 0, _, _, _, h => fun c hc => by
    obtain ⟨a1, a2, a3, a4⟩ := h c hc
    exact Or.inl ⟨a1, a3, a4, Or.inl a2⟩
  | fu + 1, k, S, hk, h => by
    rw [lf_X7_lay_44]
    by_cases zc : 8 ≤ k
    · rw [if_pos zc]
      intro c hc
      obtain ⟨a1, a2, a3, a4⟩ := h c hc
      exact Or.inl ⟨a1, a3, a4, Or.inl a2⟩
    · rw [if_neg zc]
      refine im_lay44 f b g1 g2 g3 hr fu (k + 1) _ (qm_pos hk zc) (fun c hc => ?_)
      obtain ⟨a1, a2, a3, a4⟩ := h c hc
      refine ⟨a1, a2, ?_⟩
      show -160 ≤ (upd S.2.1 k.toNatClampNeg (f + k * b) c).toInt ∧ (upd S.2.1 k.toNatClampNeg (f + k * b) c).toInt ≤ 160
      by_cases e : c = k.toNatClampNeg
      · rw [e, upd_same]
        exact hr k (qm_in8 hk zc)
      · rw [upd_ne _ _ e]
        exact ⟨a3, a4⟩
theorem im_lay {S : sM} {f b : Int32} (hr : ∀ k : Int32, vp_in k 8 → -160 ≤ (f + k * b).toInt ∧ (f + k * b).toInt ≤ 160) : IM (r_X7_lay f b S).2 := by
  unfold r_X7_lay
  exact im_kind0 (im_lay44 f b S.1 S.2.1 S.2.2.1 hr 9 0 ((fun _ => 0), (fun _ => 0), (fun _ => 0), S.2.2.2.1, S.2.2.2.2.1, S.2.2.2.2.2.1, S.2.2.2.2.2.2) (by decide) (fun _ _ => ⟨rfl, rfl, (by decide : -160 ≤ (0 : Int32).toInt), (by decide : (0 : Int32).toInt ≤ 160)⟩)) rfl rfl rfl
theorem im_wipe (S : sM) : IM (r_X7_wipe S).2 := by
  unfold r_X7_wipe
  refine im_lay (fun k _ => ?_)
  have e : (0 : Int32) + k * 0 = 0 := by rw [Int32.mul_zero, Int32.add_zero]
  rw [e]
  exact ⟨by decide, by decide⟩
theorem im_row {S : sM} (f b : Int32) (h : IM S) : IM (r_X7_row f b S).2 := by
  unfold r_X7_row
  refine im_ite (fun _ => im_kind0 h rfl rfl rfl) (fun h1 => im_ite (fun _ => im_kind0 h rfl rfl rfl) (fun h2 => im_ite (fun _ => im_rf (im_kind0 h rfl rfl rfl)) (fun h3 => im_lay (fun k hk => ?_))))
  obtain ⟨a1, a2⟩ := qx_in h1
  obtain ⟨b1, b2⟩ := qx_in h2
  obtain ⟨c1, c2⟩ := qx_in h3
  rw [Int32.lt_iff_toInt_lt] at a1 a2 b1 b2 c1 c2
  have e1 : (-160 : Int32).toInt = -160 := rfl
  have e2 : (160 : Int32).toInt = 160 := rfl
  have e3 : (-40 : Int32).toInt = -40 := rfl
  have e4 : (40 : Int32).toInt = 40 := rfl
  have e7 : (7 : Int32).toInt = 7 := rfl
  obtain ⟨k1, k2⟩ := vp_in_iff.mp hk
  have m7 : (f + 7 * b).toInt = f.toInt + 7 * b.toInt := by
    rw [Int32.toInt_add, Int32.toInt_mul, e7, Int.bmod_eq_of_le (n := 7 * b.toInt) (by omega) (by omega), Int.bmod_eq_of_le (by omega) (by omega)]
  rw [m7] at c1 c2
  have x1 : k.toInt * b.toInt ≤ 280 ∧ -280 ≤ k.toInt * b.toInt ∧ (0 ≤ b.toInt → 0 ≤ k.toInt * b.toInt ∧ k.toInt * b.toInt ≤ 7 * b.toInt) ∧ (b.toInt ≤ 0 → k.toInt * b.toInt ≤ 0 ∧ 7 * b.toInt ≤ k.toInt * b.toInt) := by
    have hp : 0 ≤ b.toInt → 0 ≤ k.toInt * b.toInt ∧ k.toInt * b.toInt ≤ 7 * b.toInt := fun z => ⟨Int.mul_nonneg k1 z, Int.mul_le_mul_of_nonneg_right (by omega) z⟩
    have hn : b.toInt ≤ 0 → k.toInt * b.toInt ≤ 0 ∧ 7 * b.toInt ≤ k.toInt * b.toInt := fun z => ⟨Int.mul_nonpos_of_nonneg_of_nonpos k1 z, Int.mul_le_mul_of_nonpos_right (by omega) z⟩
    refine ⟨?_, ?_, hp, hn⟩
    · rcases Int.le_total 0 b.toInt with z | z
      · have := hp z; omega
      · have := hn z; omega
    · rcases Int.le_total 0 b.toInt with z | z
      · have := hp z; omega
      · have := hn z; omega
  obtain ⟨x2, x3, x4, x5⟩ := x1
  have mk : (f + k * b).toInt = f.toInt + k.toInt * b.toInt := by
    rw [Int32.toInt_add, Int32.toInt_mul, Int.bmod_eq_of_le (n := k.toInt * b.toInt) (by omega) (by omega), Int.bmod_eq_of_le (by omega) (by omega)]
  rw [mk]
  rcases Int.le_total 0 b.toInt with z | z
  · have := x4 z; omega
  · have := x5 z; omega
theorem im_sort125 (g1 g2 g3 g4 : Nat → Int32) (hg : ∀ c : Nat, c < 8 → vq (g1 c) (g2 c) (g3 c)) : ∀ (fu : Nat) (k : Int32) (S : sM), ¬ k < 0 → IM S → IM (lf_X7_sort_125 g1 g2 g3 g4 fu k S).2
  | 0, _, _, _, h => h
  | fu + 1, k, S, hk, h => by
    rw [lf_X7_sort_125]
    by_cases zc : 8 ≤ k
    · rw [if_pos zc]; exact h
    · rw [if_neg zc]
      refine im_sort125 g1 g2 g3 g4 hg fu (k + 1) _ (qm_pos hk zc) (fun c hc => ?_)
      have hv := hg _ (vp_lt (qm_in8 hk zc))
      show vq (upd S.1 (g4 k.toNatClampNeg).toNatClampNeg (g1 k.toNatClampNeg) c) (upd S.2.1 (g4 k.toNatClampNeg).toNatClampNeg (g2 k.toNatClampNeg) c) (upd S.2.2.1 (g4 k.toNatClampNeg).toNatClampNeg (vp_nar .boolean (g3 k.toNatClampNeg)) c)
      by_cases e : c = (g4 k.toNatClampNeg).toNatClampNeg
      · have eu : vp_nar .boolean (g3 k.toNatClampNeg) = g3 k.toNatClampNeg := by
          rcases vq_u hv with z | z <;> rw [z] <;> rfl
        rw [e, upd_same, upd_same, upd_same, eu]
        exact hv
      · rw [upd_ne _ _ e, upd_ne _ _ e, upd_ne _ _ e]
        exact h c hc
theorem im_pair {n : Int32} {t : sM} (h : IM t) : IM ((n, t) : Int32 × sM).2 := h
theorem im_tup {X : sM} {a b c d : Int32} (h : IM X) : IM (X.1, X.2.1, X.2.2.1, a, b, c, d) := fun j hj => h j hj
theorem im_sort {S : sM} (h : IM S) : IM (r_X7_sort S).2 := by
  rw [r_X7_sort.eq_1]
  generalize (lf_X7_sort_29 9 (0 : Int32) (fun _ => 0) (S.1, S.2.1, S.2.2.1, S.2.2.2.1, S.2.2.2.2.1, S.2.2.2.2.2.1, 0)).2 = g4
  have hX : IM (lf_X7_sort_125 S.1 S.2.1 S.2.2.1 g4 9 (0 : Int32) ((fun _ => 0), (fun _ => 0), (fun _ => 0), S.2.2.2.1, S.2.2.2.2.1, S.2.2.2.2.2.1, 0)).2 := im_sort125 S.1 S.2.1 S.2.2.1 g4 h 9 0 _ (by decide) (fun _ _ => vq_z (Or.inl rfl))
  generalize (lf_X7_sort_125 S.1 S.2.1 S.2.2.1 g4 9 (0 : Int32) ((fun _ => 0), (fun _ => 0), (fun _ => 0), S.2.2.2.1, S.2.2.2.2.1, S.2.2.2.2.2.1, 0)).2 = X at hX ⊢
  exact im_pair (im_tup hX)
