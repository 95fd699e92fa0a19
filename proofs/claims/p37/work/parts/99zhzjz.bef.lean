/-! how many of a series stand ahead -/
theorem mid_1 : ∀ j : Nat, j < 801 → Int32.ofInt (-400 + j) >>> ((1 : Int32) &&& 31) = f_J9_floorDiv_7cf53 (Int32.ofInt (-400 + j)) 2 := by decide +kernel
theorem mid_2 : ∀ j : Nat, j < 801 → (f_J9_floorDiv_7cf53 (Int32.ofInt (-400 + j)) 2).toInt = (-400 + (j : Int)) / 2 := by decide +kernel
theorem ad_s {a b : Int32} (h1 : -200 ≤ a.toInt) (h2 : a.toInt ≤ 200) (h3 : -200 ≤ b.toInt) (h4 : b.toInt ≤ 200) : (a + b).toInt = a.toInt + b.toInt := by
  rw [Int32.toInt_add]
  show (a.toInt + b.toInt).bmod _ = _
  rw [Int.bmod_eq_of_le (by omega) (by omega)]
theorem mid_e {a b : Int32} (h1 : -200 ≤ a.toInt) (h2 : a.toInt ≤ 200) (h3 : -200 ≤ b.toInt) (h4 : b.toInt ≤ 200) : (a + b) >>> ((1 : Int32) &&& 31) = f_J9_floorDiv_7cf53 (a + b) 2 ∧ (f_J9_floorDiv_7cf53 (a + b) 2).toInt = (a.toInt + b.toInt) / 2 := by
  have e := ad_s h1 h2 h3 h4
  refine ⟨fin_q (P := fun x => x >>> ((1 : Int32) &&& 31) = f_J9_floorDiv_7cf53 x 2) (-400) 801 mid_1 (by omega) (by omega), ?_⟩
  have := fin_q (P := fun x => (f_J9_floorDiv_7cf53 x 2).toInt = x.toInt / 2) (-400) 801 (fun j hj => by
    rw [mid_2 j hj]
    have : (Int32.ofInt (-400 + (j : Int))).toInt = -400 + (j : Int) := by
      rw [Int32.toInt_ofInt, show Int32.size = 4294967296 from rfl, Int.bmod_eq_of_le (by omega) (by omega)]
    rw [this]) (q := a + b) (by omega) (by omega)
  rw [this, e]
theorem ct_10 {k : Int32} (h : k.toInt ≤ 9) (h0 : 0 ≤ k.toInt) : ¬ 10 ≤ k ∧ (k + 1).toInt = k.toInt + 1 := by
  have e : ¬ (10 : Int32) ≤ k := by
    rw [Int32.le_iff_toInt_le]
    have : (10 : Int32).toInt = 10 := rfl
    omega
  exact ⟨e, qm_inc e⟩
/-- what the class's search ends with -/
def caE (how : Int32) (w : Int64) (lo : Int32) : Int32 := if how = 0 then (if 0 ≤ f_X1_compare (-9223372036854775808) w then lo - f_X4_firstQ how else (lo - f_X4_firstQ how) + 1) else lo - f_X4_firstQ how
theorem sea_v {how : Int32} {w : Int64} {g : qR} {X : sM} (hg : ¬ how < 0 ∧ ¬ 3 < how) (hc : ∀ q : Int32, inS how q → (0 ≤ f_X1_compare (f_X4_digitsAt how q) w ↔ 0 ≤ r_X7_compare (r_X7_trueIn how q X) g)) : ∀ (fu : Nat) (lo hi i : Int32), 0 < fu → i.toInt = 11 - (fu : Int) → fu ≤ 11 → ¬ lo < f_X4_firstQ how → hi.toInt ≤ (f_X4_lastQ how).toInt + 1 → lo.toInt ≤ (f_X4_lastQ how).toInt + 1 → (hi.toInt - lo.toInt).toNat < 2 ^ (fu - 1) → lf_X4_countAhead_19 how w fu lo hi i = caE how w (lf_X7_less_15 how g fu lo hi X).1
  | 0, _, _, _, h, _, _, _, _, _, _ => absurd h (Nat.lt_irrefl _)
  | fu + 1, lo, hi, i, _, hi1, hf, h1, h2, h3, h4 => by
    have e10 : (10 : Int32).toInt = 10 := rfl
    have bl : -160 ≤ (f_X4_firstQ how).toInt ∧ (f_X4_lastQ how).toInt ≤ 160 := by
      rcases how_c hg with rfl | rfl | rfl | rfl <;> decide
    have h1' := h1
    rw [Int32.lt_iff_toInt_lt] at h1'
    rw [lf_X4_countAhead_19, lf_X7_less_15]
    by_cases c : 10 ≤ i
    · rw [if_pos c]
      rw [Int32.le_iff_toInt_le] at c
      have f0 : fu = 0 := by omega
      subst f0
      have : hi ≤ lo := by
        rw [Int32.le_iff_toInt_le]
        have : (2 : Nat) ^ (0 + 1 - 1) = 1 := rfl
        omega
      rw [if_pos this]
      rfl
    · rw [if_neg c]
      rw [Int32.le_iff_toInt_le] at c
      by_cases d : hi ≤ lo
      · rw [if_pos d, if_pos d]
        rfl
      · rw [if_neg d, if_neg d]
        rw [Int32.le_iff_toInt_le] at d
        obtain ⟨m1, m2⟩ := mid_e (a := lo) (b := hi) (by omega) (by omega) (by omega) (by omega)
        rw [m1]
        have s : inS how (f_J9_floorDiv_7cf53 (lo + hi) 2) := inS_f hg ⟨by rw [Int32.lt_iff_toInt_lt]; omega, by rw [Int32.lt_iff_toInt_lt]; omega⟩
        have i1 := (ct_10 (k := i) (by omega) (by omega)).2
        have pw : (2 : Nat) ^ (fu + 1 - 1) = 2 * 2 ^ (fu - 1) := by
          have : fu = (fu - 1) + 1 := by omega
          show 2 ^ fu = _
          conv => lhs; rw [this, Nat.pow_succ]
          omega
        rw [pw] at h4
        by_cases y : 0 ≤ r_X7_compare (r_X7_trueIn how (f_J9_floorDiv_7cf53 (lo + hi) 2) X) g
        · rw [if_pos y, if_pos ((hc _ s).mpr y)]
          exact sea_v hg hc fu lo _ (i + 1) (by omega) (by omega) (by omega) h1 (by omega) h3 (by omega)
        · rw [if_neg y, if_neg (fun z => y ((hc _ s).mp z))]
          have m3 : (f_J9_floorDiv_7cf53 (lo + hi) 2 + 1).toInt = (f_J9_floorDiv_7cf53 (lo + hi) 2).toInt + 1 := by
            have := ad_s (a := f_J9_floorDiv_7cf53 (lo + hi) 2) (b := 1) (by omega) (by omega) (by decide) (by decide)
            have e1 : (1 : Int32).toInt = 1 := rfl
            omega
          exact sea_v hg hc fu _ hi (i + 1) (by omega) (by omega) (by omega) (by rw [Int32.lt_iff_toInt_lt]; omega) h2 (by omega) (by omega)
theorem qS_1 : (List.range 321).all (fun j => decide (tS (snk 0 (Int32.ofInt (-160 + j))) (snq 0 (Int32.ofInt (-160 + j))) = (Int32.ofInt (-160 + j)).toInt * 2 ^ 254)) = true := by decide +kernel
theorem qS_v {q : Int32} (h1 : -160 ≤ q.toInt) (h2 : q.toInt ≤ 160) : tS (snk 0 q) (snq 0 q) = q.toInt * 2 ^ 254 :=
  fin_q (P := fun q => tS (snk 0 q) (snq 0 q) = q.toInt * 2 ^ 254) (-160) 321 (fun j hj => of_decide_eq_true (List.all_eq_true.mp qS_1 j (List.mem_range.mpr hj))) h1 (by omega)
/-- the model's place of 0 in the row of quarters -/
theorem les_0 {g : qR} {X : sM} : ∀ (fu : Nat) (lo hi : Int32), -160 ≤ lo.toInt → hi.toInt ≤ 161 → lo.toInt ≤ 161 → (svN (tv g 0 11) ≤ 0 → lo.toInt ≤ 0 → (lf_X7_less_15 0 g fu lo hi X).1.toInt ≤ 0) ∧ (0 < svN (tv g 0 11) → 0 < hi.toInt → 0 < fu → (hi.toInt - lo.toInt).toNat < 2 ^ (fu - 1) → 0 < (lf_X7_less_15 0 g fu lo hi X).1.toInt)
  | 0, lo, hi, _, _, _ => ⟨fun _ h => h, fun _ _ h => absurd h (Nat.lt_irrefl _)⟩
  | fu + 1, lo, hi, h1, h2, h3 => by
    rw [lf_X7_less_15]
    by_cases d : hi ≤ lo
    · rw [if_pos d]
      rw [Int32.le_iff_toInt_le] at d
      exact ⟨fun _ h => h, fun _ h _ _ => by show 0 < lo.toInt; omega⟩
    · rw [if_neg d]
      rw [Int32.le_iff_toInt_le] at d
      obtain ⟨m1, m2⟩ := mid_e (a := lo) (b := hi) (by omega) (by omega) (by omega) (by omega)
      have s : inS 0 (f_J9_floorDiv_7cf53 (lo + hi) 2) := Or.inl ⟨rfl, by omega, by omega⟩
      have m3 : (f_J9_floorDiv_7cf53 (lo + hi) 2 + 1).toInt = (f_J9_floorDiv_7cf53 (lo + hi) 2).toInt + 1 := by
        have := ad_s (a := f_J9_floorDiv_7cf53 (lo + hi) 2) (b := 1) (by omega) (by omega) (by decide) (by decide)
        have e1 : (1 : Int32).toInt = 1 := rfl
        omega
      have tq : tS (snk 0 (f_J9_floorDiv_7cf53 (lo + hi) 2)) (snq 0 (f_J9_floorDiv_7cf53 (lo + hi) 2)) = (f_J9_floorDiv_7cf53 (lo + hi) 2).toInt * 2 ^ 254 := qS_v (by omega) (by omega)
      have i0 := les_0 (g := g) (X := X) fu lo (f_J9_floorDiv_7cf53 (lo + hi) 2) h1 (by omega) h3
      have i1 := les_0 (g := g) (X := X) fu (f_J9_floorDiv_7cf53 (lo + hi) 2 + 1) hi (by omega) h2 (by omega)
      have hp : (0 : Int) < 2 ^ 254 := by decide +kernel
      have key : 0 ≤ r_X7_compare (r_X7_trueIn 0 (f_J9_floorDiv_7cf53 (lo + hi) 2) X) g ↔ ¬ (f_J9_floorDiv_7cf53 (lo + hi) 2).toInt * 2 ^ 254 < svN (tv g 0 11) := by rw [cmp_v, ser_t X s, cmpI_0, tq]
      generalize (f_J9_floorDiv_7cf53 (lo + hi) 2) = md at m2 m3 i0 i1 key ⊢
      generalize svN (tv g 0 11) = G at i0 i1 key ⊢
      have pw : 0 < fu → (2 : Nat) ^ (fu + 1 - 1) = 2 * 2 ^ (fu - 1) := fun hf => by
        have : fu = (fu - 1) + 1 := by omega
        show 2 ^ fu = _
        conv => lhs; rw [this, Nat.pow_succ]
        omega
      by_cases y : md.toInt * 2 ^ 254 < G
      · rw [if_neg (fun z => key.mp z y)]
        refine ⟨fun g0 l0 => i1.1 g0 ?_, fun g0 p0 _ pz => ?_⟩
        · have : md.toInt < 0 := by
            by_cases q : md.toInt < 0
            · exact q
            · have : 0 ≤ md.toInt * 2 ^ 254 := Int.mul_nonneg (by omega) (by omega)
              omega
          omega
        · by_cases f0 : fu = 0
          · subst f0
            have : (2 : Nat) ^ (0 + 1 - 1) = 1 := rfl
            omega
          · rw [pw (by omega)] at pz
            exact i1.2 g0 p0 (by omega) (by omega)
      · rw [if_pos (key.mpr y)]
        refine ⟨fun g0 l0 => i0.1 g0 l0, fun g0 p0 _ pz => ?_⟩
        have : 0 < md.toInt := by
          by_cases q : 0 < md.toInt
          · exact q
          · have : md.toInt * 2 ^ 254 ≤ 0 := by
              have := Int.mul_nonneg (show 0 ≤ -md.toInt by omega) (show (0 : Int) ≤ 2 ^ 254 by omega)
              rw [Int.neg_mul] at this
              omega
            omega
        by_cases f0 : fu = 0
        · subst f0
          have : (2 : Nat) ^ (0 + 1 - 1) = 1 := rfl
          omega
        · rw [pw (by omega)] at pz
          exact i0.2 g0 this (by omega) (by omega)
theorem bef_c {how a b u : Int32} (X : sM) (hg : ¬ how < 0 ∧ ¬ 3 < how) (h : vq a b u) (h1 : ¬ a = 1) : f_X4_countAhead how (f_X1_digitsOf (enc a b u)) = caE how (f_X1_digitsOf (enc a b u)) (lf_X7_less_15 how (r_X7_trueOf a b X) 11 (t_le how.toNatClampNeg) (t_gr how.toNatClampNeg + 1) X).1 := by
  obtain ⟨b1, b2⟩ := sb_e hg
  rw [b1, b2]
  have hb : (f_X4_lastQ how + 1).toInt = (f_X4_lastQ how).toInt + 1 ∧ ((f_X4_lastQ how + 1).toInt - (f_X4_firstQ how).toInt).toNat < 2 ^ (11 - 1) ∧ (f_X4_firstQ how).toInt ≤ (f_X4_lastQ how).toInt + 1 := by
    rcases how_c hg with rfl | rfl | rfl | rfl <;> decide
  exact sea_v hg (fun q hq => ser_c X hq h h1) 11 _ _ 0 (by decide) (by decide) (by decide) (fun z => by rw [Int32.lt_iff_toInt_lt] at z; omega) (by omega) hb.2.2 hb.2.1
theorem inf_1 : ∀ h : Nat, h < 4 → f_X4_countAhead (Int32.ofNat h) (f_X1_digitsOf (enc 1 0 0)) = (if Int32.ofNat h = 0 then (t_gr (Int32.ofNat h).toNatClampNeg - t_le (Int32.ofNat h).toNatClampNeg) + 2 else (t_gr (Int32.ofNat h).toNatClampNeg - t_le (Int32.ofNat h).toNatClampNeg) + 1) ∧ f_X4_countAhead (Int32.ofNat h) (f_X1_digitsOf (enc 1 0 1)) = 0 := by decide +kernel
theorem how_n {how : Int32} (hg : ¬ how < 0 ∧ ¬ 3 < how) : ∃ h : Nat, h < 4 ∧ how = Int32.ofNat h := by
  rcases how_c hg with rfl | rfl | rfl | rfl
  · exact ⟨0, by decide, rfl⟩
  · exact ⟨1, by decide, rfl⟩
  · exact ⟨2, by decide, rfl⟩
  · exact ⟨3, by decide, rfl⟩
theorem dz_e : f_X1_digitsOf (enc 0 0 1) = -9223372036854775808 := by decide +kernel
theorem caE_0 {a b u : Int32} (h : vq a b u) : (0 ≤ f_X1_compare (-9223372036854775808) (f_X1_digitsOf (enc a b u))) ↔ ¬ -1 < kM a b u := by
  rw [← dz_e, cmpX, or_c (vq_z (Or.inr rfl)) h, cmpI_0]
  have e : kM 0 0 1 = -1 := by decide
  rw [e]
/-- what the model counts -/
def befM (how a b u : Int32) (X : sM) : Int32 := if a = 1 then (if u = 0 then (if how = 0 then (t_gr how.toNatClampNeg - t_le how.toNatClampNeg) + 2 else (t_gr how.toNatClampNeg - t_le how.toNatClampNeg) + 1) else 0) else if how = 0 then (if a = 0 ∧ b = 0 then (if u = 0 then r_X7_less how (r_X7_trueOf a b X) X + 1 else r_X7_less how (r_X7_trueOf a b X) X + 0) else r_X7_less how (r_X7_trueOf a b X) X + 0) else r_X7_less how (r_X7_trueOf a b X) X + 0
theorem bef_v {how a b u : Int32} (X : sM) (hg : ¬ how < 0 ∧ ¬ 3 < how) (h : vq a b u) : f_X4_countAhead how (f_X1_digitsOf (enc a b u)) = befM how a b u X := by
  unfold befM
  by_cases h1 : a = 1
  · subst h1
    have b0 := vq_1 h
    subst b0
    obtain ⟨k, hk, rfl⟩ := how_n hg
    obtain ⟨e1, e2⟩ := inf_1 k hk
    rw [if_pos rfl]
    rcases vq_u h with rfl | rfl
    · rw [if_pos rfl]; exact e1
    · rw [if_neg (by decide)]; exact e2
  · rw [if_neg h1, bef_c X hg h h1]
    obtain ⟨b1, b2⟩ := sb_e hg
    unfold caE
    by_cases z : how = 0
    · subst z
      rw [if_pos rfl, if_pos rfl]
      obtain ⟨l1, l2⟩ := les_0 (g := r_X7_trueOf a b X) (X := X) 11 (t_le (0 : Int32).toNatClampNeg) (t_gr (0 : Int32).toNatClampNeg + 1) (by decide) (by decide) (by decide)
      have tt : svN (tv (r_X7_trueOf a b X) 0 11) = tS a b := by rw [true_v X (vq_t h)]; rfl
      rw [tt] at l1 l2
      have el : r_X7_less 0 (r_X7_trueOf a b X) X = if (lf_X7_less_15 0 (r_X7_trueOf a b X) 11 (t_le (0 : Int32).toNatClampNeg) (t_gr (0 : Int32).toNatClampNeg + 1) X).1 ≤ 0 then ((lf_X7_less_15 0 (r_X7_trueOf a b X) 11 (t_le (0 : Int32).toNatClampNeg) (t_gr (0 : Int32).toNatClampNeg + 1) X).1 - t_le (0 : Int32).toNatClampNeg) + 0 else ((lf_X7_less_15 0 (r_X7_trueOf a b X) 11 (t_le (0 : Int32).toNatClampNeg) (t_gr (0 : Int32).toNatClampNeg + 1) X).1 - t_le (0 : Int32).toNatClampNeg) + 1 := by
        unfold r_X7_less
        exact if_pos rfl
      rw [el]
      have fe : f_X4_firstQ 0 = t_le (0 : Int32).toNatClampNeg := b1.symm
      rw [fe]
      have e0 : (0 : Int32).toInt = 0 := rfl
      generalize (lf_X7_less_15 0 (r_X7_trueOf a b X) 11 (t_le (0 : Int32).toNatClampNeg) (t_gr (0 : Int32).toNatClampNeg + 1) X).1 = lo at l1 l2 ⊢
      obtain ⟨-, -, kz, kn⟩ := kM_b h h1
      by_cases c : a = 0 ∧ b = 0
      · have t0 := kz c
        have lo0 : lo ≤ 0 := by rw [Int32.le_iff_toInt_le]; exact l1 (by omega) (by decide)
        have km : kM a b u = if u = 0 then 0 else -1 := by
          unfold kM
          rw [if_neg h1, if_pos c]
        rw [if_pos c, if_pos lo0]
        by_cases u0 : u = 0
        · rw [if_neg (fun y => (caE_0 h).mp y (by rw [km, if_pos u0]; decide)), if_pos u0, Int32.add_zero]
        · rw [if_pos ((caE_0 h).mpr (by rw [km, if_neg u0]; decide)), if_neg u0, Int32.add_zero, Int32.add_zero]
      · have tn := kn c
        have km := kM_2 (u := u) h1 c
        rw [if_neg c]
        by_cases p : 0 < tS a b
        · have lo0 : ¬ lo ≤ 0 := by
            rw [Int32.le_iff_toInt_le]
            have := l2 p (by decide) (by decide) (by decide)
            omega
          rw [if_neg (fun y => (caE_0 h).mp y (by rw [km]; omega)), if_neg lo0, Int32.add_zero]
        · have lo0 : lo ≤ 0 := by rw [Int32.le_iff_toInt_le]; exact l1 (by omega) (by decide)
          rw [if_pos ((caE_0 h).mpr (by rw [km]; omega)), if_pos lo0, Int32.add_zero, Int32.add_zero]
    · rw [if_neg z, if_neg z, b1]
      unfold r_X7_less
      rw [if_neg z, b1, Int32.add_zero, Int32.add_zero]
