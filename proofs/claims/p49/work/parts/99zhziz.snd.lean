/-! all is sound -/
theorem cmpI_m (x y : Int) : cmpI x y = -(cmpI y x) := by
  rcases Int.lt_trichotomy x y with h | h | h
  · rw [cmpI_l h, cmpI_g h]
  · rw [cmpI_e h, cmpI_e h.symm]; decide
  · rw [cmpI_g h, cmpI_l h]; decide
theorem cmpI_le (x y : Int) : cmpI x y ≤ 0 ↔ x ≤ y := by
  rcases Int.lt_trichotomy x y with h | h | h
  · rw [cmpI_l h]
    exact ⟨fun _ => by omega, fun _ => by decide⟩
  · rw [cmpI_e h]
    exact ⟨fun _ => by omega, fun _ => by decide⟩
  · rw [cmpI_g h]
    exact ⟨fun z => absurd z (by decide), fun z => by omega⟩
theorem cmpI_z {x y : Int} (h : cmpI x y = 0) : x = y := by
  rcases Int.lt_trichotomy x y with e | e | e
  · rw [cmpI_l e] at h; exact absurd h (by decide)
  · exact e
  · rw [cmpI_g e] at h; exact absurd h (by decide)
def cnk (kd : Int32) : Int32 := if kd = 5 then 0 else if kd = 6 then 0 else kd
theorem oI_v : vall (fun kd q u => oI (oR kd q u) == enc (cnk kd) q u) = true := by decide +kernel
theorem cnk_q {kd q u : Int32} (h : vq kd q u) : vq (cnk kd) q u := by
  unfold cnk
  rcases h with ⟨rfl, a⟩ | ⟨rfl, a⟩ | ⟨rfl, a⟩ | ⟨rfl, a⟩ | ⟨rfl, a⟩ | ⟨rfl, a1, a2, a3⟩ | ⟨rfl, a1, a2, a3, a4⟩
  · exact Or.inl ⟨rfl, a⟩
  · exact Or.inr (Or.inl ⟨rfl, a⟩)
  · exact Or.inr (Or.inr (Or.inl ⟨rfl, a⟩))
  · exact Or.inr (Or.inr (Or.inr (Or.inl ⟨rfl, a⟩)))
  · exact Or.inr (Or.inr (Or.inr (Or.inr (Or.inl ⟨rfl, a⟩))))
  · exact Or.inl ⟨rfl, by omega, by omega, Or.inl a3⟩
  · exact Or.inl ⟨rfl, by omega, by omega, Or.inl a4⟩
/-- equal keys: alike, or near -/
theorem key_e {a b c a' b' c' : Int32} (h : vq a b c) (h' : vq a' b' c') (e : kM a b c = kM a' b' c') (n : f_X2_areNear (enc a b c) (enc a' b' c') = 0) : enc a b c = enc a' b' c' := by
  obtain ⟨a1, -, a3⟩ := oR_k h
  obtain ⟨b1, -, b3⟩ := oR_k h'
  have hr := srt_c srt_M a1 b1
  rw [a3, b3] at hr
  rw [cmpI_e e] at hr
  have er : oR a b c = oR a' b' c' := by
    have := cmpI_z hr.symm
    omega
  have i1 := eq_of_beq (vall_e oI_v h)
  have i2 := eq_of_beq (vall_e oI_v h')
  rw [er, i2] at i1
  obtain ⟨c1, c2, c3⟩ := enc_inj (cnk_q h) (cnk_q h') i1.symm
  subst c2
  subst c3
  by_cases ea : a = a'
  · rw [ea]
  · exfalso
    obtain ⟨i, hi, ei⟩ := kd7 h
    obtain ⟨j, hj, ej⟩ := kd7 h'
    rw [near_X h h'] at n
    have key0 : ∀ i : Nat, i < 7 → ∀ j : Nat, j < 7 → (i == j || (!(cnk (Int32.ofNat i) == cnk (Int32.ofNat j)) || ((nX (Int32.ofNat i) (Int32.ofNat j) true == 1 && (!(i == 1) && !(j == 1))) || ((i == 5 && j == 6) || (i == 6 && j == 5))))) = true := by decide +kernel
    have kk := key0 i hi j hj
    rw [ei, ej] at c1
    have ij : ¬ i = j := fun z => ea (by rw [ei, ej, z])
    simp only [Bool.or_eq_true, Bool.and_eq_true, Bool.not_eq_true', beq_iff_eq, beq_eq_false_iff_ne] at kk
    rcases (kk.resolve_left ij).resolve_left (fun z => z c1) with ⟨k1, k2, k3⟩ | ⟨k1, k2⟩ | ⟨k1, k2⟩
    · have eq : qx a b c = qx a' b c := by
        unfold qx
        rw [if_neg (fun z => k2 (ofN_1 i hi (ei.symm.trans z))), if_neg (fun z => k3 (ofN_1 j hj (ej.symm.trans z)))]
      rw [decide_eq_true eq, ei, ej, k1] at n
      exact absurd n (by decide)
    · rw [ei, k1] at h
      rw [ej, k2] at h'
      exact v56 h h'
    · rw [ei, k1] at h
      rw [ej, k2] at h'
      exact v56 h' h
theorem cmp_k {S : sX} {T : sM} (hR : Rw0 S T) (hI : IM T) {a b : Int32} (ha : vp_in a 8) (hb : vp_in b 8) : r_X5_compareCells a b S = cmpI (kap T a.toNatClampNeg) (kap T b.toNatClampNeg) := by
  rw [ordXM hR hI ha hb, orM (hI _ (vp_lt ha)) (hI _ (vp_lt hb))]
  rfl
theorem pair_1 {S : sX} {T : sM} (hR : Rw0 S T) (hI : IM T) {a b : Int32} (ha : vp_in a 8) (hb : vp_in b 8) : ¬ r_X5_isPairSound a b S = 0 := by
  unfold r_X5_isPairSound
  by_cases n : f_X2_areNear (S.1 a.toNatClampNeg) (S.1 b.toNatClampNeg) = 0
  · rw [if_pos n, cmp_k hR hI ha hb, cmp_k hR hI hb ha, if_pos (cmpI_m _ _)]
    by_cases z : cmpI (kap T a.toNatClampNeg) (kap T b.toNatClampNeg) = 0
    · have ek := cmpI_z z
      rw [hR.1 _ (vp_lt ha), hR.1 _ (vp_lt hb)] at n ⊢
      rw [if_pos z, if_pos (key_e (hI _ (vp_lt ha)) (hI _ (vp_lt hb)) ek n)]
      decide
    · rw [if_neg z, if_neg (fun e => z ?_)]
      · decide
      · rw [hR.1 _ (vp_lt ha), hR.1 _ (vp_lt hb)] at e
        obtain ⟨e1, e2, e3⟩ := enc_inj (hI _ (vp_lt ha)) (hI _ (vp_lt hb)) e
        refine cmpI_e ?_
        unfold kap
        rw [e1, e2, e3]
  · rw [if_neg n, within_v hR hI ha hb (by rw [← near_S hR hI ha hb]; exact n)]
    decide
theorem iS_45 {S : sX} {T : sM} (hR : Rw0 S T) (hI : IM T) {i : Int32} (hi : vp_in i 8) {kx : sX → Int32} (hk : kx S = 1) : ∀ (fu : Nat) (j : Int32), ¬ j < 0 → ((8 : Int32).toInt - j.toInt).toNat < fu → lr_X5_isSound_45 i kx fu j S = 1
  | 0, _, _, h => absurd h (Nat.not_lt_zero _)
  | fu + 1, j, hj, h => by
    rw [lr_X5_isSound_45]
    by_cases z : 8 ≤ j
    · rw [if_pos z]; exact hk
    · rw [if_neg z, if_neg (pair_1 hR hI hi (qm_in8 hj z))]
      exact iS_45 hR hI hi hk fu (j + 1) (qm_pos hj z) (qm_up z h)
theorem aT_34 {S : sX} {T : sM} (hR : Rw0 S T) (hI : IM T) {a b : Int32} (ha : vp_in a 8) (hb : vp_in b 8) {kx : sX → Int32} (hk : kx S = 1) {o : Int32} (ho : ¬ o = 0 → r_X5_compareCells a b S ≤ 0) : ∀ (fu : Nat) (c : Int32), ¬ c < 0 → ((8 : Int32).toInt - c.toInt).toNat < fu → lr_X5_areTriplesSound_34 a b kx fu o c S = 1
  | 0, _, _, h => absurd h (Nat.not_lt_zero _)
  | fu + 1, c, hc, h => by
    rw [lr_X5_areTriplesSound_34]
    by_cases z : 8 ≤ c
    · rw [if_pos z]; exact hk
    · rw [if_neg z]
      by_cases y : o = 0
      · rw [if_pos y]; exact hk
      · rw [if_neg y]
        have h8 := qm_in8 hc z
        have r := aT_34 hR hI ha hb hk ho fu (c + 1) (qm_pos hc z) (qm_up z h)
        by_cases x : 0 < r_X5_compareCells b c S
        · rw [if_pos x]; exact r
        · rw [if_neg x]
          have h1 := ho y
          have h2 := qm_nlt x
          rw [cmp_k hR hI ha hb, cmpI_le] at h1
          rw [cmp_k hR hI hb h8, cmpI_le] at h2
          rw [if_pos (by rw [cmp_k hR hI ha h8, cmpI_le]; omega)]
          exact r
theorem aT_10 {S : sX} {T : sM} (hR : Rw0 S T) (hI : IM T) {a : Int32} (ha : vp_in a 8) {kx : sX → Int32} (hk : kx S = 1) : ∀ (fu : Nat) (b : Int32), ¬ b < 0 → ((8 : Int32).toInt - b.toInt).toNat < fu → lr_X5_areTriplesSound_10 a kx fu b S = 1
  | 0, _, _, h => absurd h (Nat.not_lt_zero _)
  | fu + 1, b, hb, h => by
    rw [lr_X5_areTriplesSound_10]
    by_cases z : 8 ≤ b
    · rw [if_pos z]; exact hk
    · rw [if_neg z]
      have h8 := qm_in8 hb z
      have r := aT_10 hR hI ha hk fu (b + 1) (qm_pos hb z) (qm_up z h)
      by_cases x : 0 < r_X5_compareCells a b S
      · rw [if_pos x]
        exact aT_34 hR hI ha h8 (kx := fun Sk => lr_X5_areTriplesSound_10 a kx fu (b + 1) Sk) r (fun y => absurd rfl y) 9 0 (by decide) (by decide)
      · rw [if_neg x]
        exact aT_34 hR hI ha h8 (kx := fun Sk => lr_X5_areTriplesSound_10 a kx fu (b + 1) Sk) r (fun _ => qm_nlt x) 9 0 (by decide) (by decide)
theorem aT_2 {S : sX} {T : sM} (hR : Rw0 S T) (hI : IM T) : ∀ (fu : Nat) (a : Int32), ¬ a < 0 → ((8 : Int32).toInt - a.toInt).toNat < fu → lr_X5_areTriplesSound_2 fu a S = 1
  | 0, _, _, h => absurd h (Nat.not_lt_zero _)
  | fu + 1, a, ha, h => by
    rw [lr_X5_areTriplesSound_2]
    by_cases z : 8 ≤ a
    · rw [if_pos z]
    · rw [if_neg z]
      exact aT_10 hR hI (qm_in8 ha z) (kx := fun Sk => lr_X5_areTriplesSound_2 fu (a + 1) Sk) (aT_2 hR hI fu (a + 1) (qm_pos ha z) (qm_up z h)) 9 0 (by decide) (by decide)
theorem plc_1 : vall (fun kd q u => decide (¬ f_X5_isInItsPlace (enc kd q u) = 0)) = true := by decide +kernel
theorem iS_2 {S : sX} {T : sM} (hR : Rw0 S T) (hI : IM T) : ∀ (fu : Nat) (i : Int32), ¬ i < 0 → ((8 : Int32).toInt - i.toInt).toNat < fu → lr_X5_isSound_2 fu i S = 1
  | 0, _, _, h => absurd h (Nat.not_lt_zero _)
  | fu + 1, i, hi, h => by
    rw [lr_X5_isSound_2]
    by_cases z : 8 ≤ i
    · rw [if_pos z]
      exact aT_2 hR hI 9 0 (by decide) (by decide)
    · rw [if_neg z]
      have h8 := qm_in8 hi z
      have e1 := qm_inc z
      have e8 : (8 : Int32).toInt = 8 := rfl
      have e0 : (0 : Int32).toInt = 0 := rfl
      have hi' := hi
      rw [Int32.lt_iff_toInt_lt] at hi'
      rw [if_pos (hR.2.1 _ (vp_lt h8)), hR.1 _ (vp_lt h8), if_neg (of_decide_eq_true (vall_e plc_1 (hI _ (vp_lt h8))))]
      exact iS_45 hR hI h8 (kx := fun Sk => lr_X5_isSound_2 fu (i + 1) Sk) (iS_2 hR hI fu (i + 1) (qm_pos hi z) (qm_up z h)) 9 (i + 1) (qm_pos hi z) (by omega)
theorem snd_v {S : sX} {T : sM} (hR : Rw S T) (hI : IM T) : r_X5_isSound S = (r_X7_isSound T).1 := iS_2 hR.1 hI 9 0 (by decide) (by decide)
