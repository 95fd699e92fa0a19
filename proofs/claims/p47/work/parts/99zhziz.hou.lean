/-! quarters and near pairs counted -/
theorem s8_s {f : Nat → Nat} {k : Nat} (h : k < 8) : s8 (fun m => if k ≤ m then f m else 0) = f k + s8 (fun m => if k + 1 ≤ m then f m else 0) := by
  rw [← s8_1 k (f k) h, ← s8_a]
  refine s8_c (fun n _ => ?_)
  show (if k ≤ n then f n else 0) = (if n = k then f k else 0) + (if k + 1 ≤ n then f n else 0)
  by_cases e : n = k
  · subst e
    have h1 : n ≤ n := Nat.le_refl _
    have h2 : ¬ n + 1 ≤ n := by omega
    have h3 : n = n := rfl
    rw [if_pos h1, if_pos h3, if_neg h2]
    rfl
  · rw [if_neg e, Nat.zero_add]
    by_cases l : k ≤ n
    · rw [if_pos l, if_pos (show k + 1 ≤ n by omega)]
    · rw [if_neg l, if_neg (show ¬ k + 1 ≤ n by omega)]
theorem s8_z {f : Nat → Nat} {k : Nat} (h : 8 ≤ k) : s8 (fun m => if k ≤ m then f m else 0) = 0 := by
  exact (s8_c (g := fun _ => 0) (fun n hn => if_neg (by omega))).trans rfl
theorem s8_f (f : Nat → Nat → Nat) : s8 (fun a => s8 (fun b => f a b)) = s8 (fun b => s8 (fun a => f a b)) := by
  simp only [s8]
  omega
theorem ad_0 (n : Int32) : n + Int32.ofNat 0 = n := Int32.add_zero n
theorem ad_1 (n : Int32) (a b : Nat) : n + Int32.ofNat a + Int32.ofNat b = n + Int32.ofNat (a + b) := by
  rw [Int32.add_assoc, ← Int32.ofNat_add]
theorem hq_v {S : sX} {T : sM} (hR : Rw0 S T) (hI : IM T) : ∀ (fu : Nat) (n k : Int32), ¬ k < 0 → ((8 : Int32).toInt - k.toInt).toNat < fu → lr_X5_cellsWithQuarters_4 fu n k S = (lf_X7_house_52 3 fu n k T).1
  | 0, _, _, _, h => absurd h (Nat.not_lt_zero _)
  | fu + 1, n, k, hk, h => by
    rw [lr_X5_cellsWithQuarters_4, lf_X7_house_52]
    by_cases z : 8 ≤ k
    · rw [if_pos z, if_pos z]
    · rw [if_neg z, if_neg z, if_pos rfl]
      have n8 := vp_lt (qm_in8 hk z)
      have e : ∀ x : Int32, (lf_X7_house_78 3 k 9 x 0 T).1 = x := fun x => by
        rw [lf_X7_house_78, if_neg (by decide)]
      rw [hR.1 _ n8, (enc_v (hI _ n8)).1, e, e]
      by_cases y : T.1 k.toNatClampNeg = 0
      · rw [if_pos y, if_pos y]
        exact hq_v hR hI fu (n + 1) (k + 1) (qm_pos hk z) (qm_up z h)
      · rw [if_neg y, if_neg y]
        exact hq_v hR hI fu n (k + 1) (qm_pos hk z) (qm_up z h)
def nr (S : sX) (a b : Nat) : Nat := if f_X2_areNear (S.1 a) (S.1 b) = 0 then 0 else 1
theorem np_14 {S : sX} {i : Int32} {kx : Int32 → sX → Int32} : ∀ (fu : Nat) (n j : Int32), ¬ j < 0 → ((8 : Int32).toInt - j.toInt).toNat < fu → lr_X5_nearPairs_14 i kx fu n j S = kx (n + Int32.ofNat (s8 (fun m => if j.toNatClampNeg ≤ m then nr S i.toNatClampNeg m else 0))) S
  | 0, _, _, _, h => absurd h (Nat.not_lt_zero _)
  | fu + 1, n, j, hj, h => by
    rw [lr_X5_nearPairs_14]
    by_cases z : 8 ≤ j
    · rw [if_pos z, s8_z (ge8 z), ad_0]
    · rw [if_neg z, s8_s (vp_lt (qm_in8 hj z)), ← ad_1]
      have r0 := np_14 (S := S) (i := i) (kx := kx) fu n (j + 1) (qm_pos hj z) (qm_up z h)
      have r1 := np_14 (S := S) (i := i) (kx := kx) fu (n + 1) (j + 1) (qm_pos hj z) (qm_up z h)
      rw [nx_n hj z] at r0 r1
      unfold nr
      by_cases y : f_X2_areNear (S.1 i.toNatClampNeg) (S.1 j.toNatClampNeg) = 0
      · rw [if_pos y, if_pos y, ad_0]
        exact r0
      · rw [if_neg y, if_neg y]
        exact r1
theorem np_4 {S : sX} : ∀ (fu : Nat) (n i : Int32), ¬ i < 0 → ((8 : Int32).toInt - i.toInt).toNat < fu → lr_X5_nearPairs_4 fu n i S = n + Int32.ofNat (s8 (fun a => if i.toNatClampNeg ≤ a then s8 (fun m => if a + 1 ≤ m then nr S a m else 0) else 0))
  | 0, _, _, _, h => absurd h (Nat.not_lt_zero _)
  | fu + 1, n, i, hi, h => by
    rw [lr_X5_nearPairs_4]
    by_cases z : 8 ≤ i
    · rw [if_pos z, s8_z (ge8 z), ad_0]
    · have e1 := qm_inc z
      have e8 : (8 : Int32).toInt = 8 := rfl
      have e0 : (0 : Int32).toInt = 0 := rfl
      have hi' := hi
      rw [Int32.lt_iff_toInt_lt] at hi'
      rw [if_neg z, np_14 9 n (i + 1) (qm_pos hi z) (by omega), s8_s (vp_lt (qm_in8 hi z)), ← ad_1]
      have r := np_4 (S := S) fu (n + Int32.ofNat (s8 (fun m => if (i + 1).toNatClampNeg ≤ m then nr S i.toNatClampNeg m else 0))) (i + 1) (qm_pos hi z) (qm_up z h)
      rw [nx_n hi z] at r ⊢
      exact r
theorem hp_78 {T : sM} {S : sX} (hR : Rw0 S T) (hI : IM T) {k : Int32} (h8 : vp_in k 8) : ∀ (fu : Nat) (mn n : Int32), ¬ n < 0 → n.toNatClampNeg ≤ 8 → ((8 : Int32).toInt - n.toInt).toNat < fu → (lf_X7_house_78 4 k fu mn n T).1 = mn + Int32.ofNat (s8 (fun m => if n.toNatClampNeg ≤ m then (if m + 1 ≤ k.toNatClampNeg then nr S m k.toNatClampNeg else 0) else 0))
  | 0, _, _, _, _, h => absurd h (Nat.not_lt_zero _)
  | fu + 1, mn, n, hn, hn8, h => by
    have k8 := vp_lt h8
    have en : n.toNatClampNeg = n.toInt.toNat := rfl
    have ek : k.toNatClampNeg = k.toInt.toNat := rfl
    have e0 : (0 : Int32).toInt = 0 := rfl
    have hn' := hn
    rw [Int32.lt_iff_toInt_lt] at hn'
    rw [lf_X7_house_78, if_pos rfl]
    by_cases z : k ≤ n
    · rw [if_pos z]
      rw [Int32.le_iff_toInt_le] at z
      rw [s8_c (g := fun _ => 0) (fun m _ => by
        show (if n.toNatClampNeg ≤ m then (if m + 1 ≤ k.toNatClampNeg then nr S m k.toNatClampNeg else 0) else 0) = 0
        by_cases y : n.toNatClampNeg ≤ m
        · rw [if_pos y, if_neg (by omega)]
        · rw [if_neg y])]
      exact (ad_0 mn).symm
    · rw [if_neg z]
      have z' := z
      rw [Int32.le_iff_toInt_le] at z'
      have c8 : ¬ 8 ≤ n := by
        rw [Int32.le_iff_toInt_le]
        have e8 : (8 : Int32).toInt = 8 := rfl
        omega
      have n8 := qm_in8 hn c8
      rw [s8_s (vp_lt n8), if_pos (show n.toNatClampNeg + 1 ≤ k.toNatClampNeg by omega), ← ad_1]
      have r0 := hp_78 (S := S) hR hI h8 fu (mn + 0) (n + 1) (qm_pos hn c8) (by have := nx_n hn c8; omega) (qm_up c8 h)
      have r1 := hp_78 (S := S) hR hI h8 fu (mn + 1) (n + 1) (qm_pos hn c8) (by have := nx_n hn c8; omega) (qm_up c8 h)
      rw [nx_n hn c8] at r0 r1
      have ea : nr S n.toNatClampNeg k.toNatClampNeg = if r_X7_areNear n k T = 0 then 0 else 1 := by
        unfold nr
        rw [near_S hR hI n8 h8]
      rw [ea]
      by_cases y : r_X7_areNear n k T = 0
      · rw [if_pos y, if_pos y]
        exact r0
      · rw [if_neg y, if_neg y]
        exact r1
theorem hp_52 {T : sM} {S : sX} (hR : Rw0 S T) (hI : IM T) : ∀ (fu : Nat) (mn k : Int32), ¬ k < 0 → ((8 : Int32).toInt - k.toInt).toNat < fu → (lf_X7_house_52 4 fu mn k T).1 = mn + Int32.ofNat (s8 (fun a => if k.toNatClampNeg ≤ a then s8 (fun m => if m + 1 ≤ a then nr S m a else 0) else 0))
  | 0, _, _, _, h => absurd h (Nat.not_lt_zero _)
  | fu + 1, mn, k, hk, h => by
    rw [lf_X7_house_52]
    by_cases z : 8 ≤ k
    · rw [if_pos z, s8_z (ge8 z), ad_0]
    · rw [if_neg z, if_neg (by decide)]
      have h8 := qm_in8 hk z
      have i := hp_78 (S := S) hR hI h8 9 mn 0 (by decide) (by decide) (by decide)
      rw [i, s8_s (vp_lt h8), ← ad_1]
      have r := hp_52 (S := S) hR hI fu (mn + Int32.ofNat (s8 (fun m => if (0 : Int32).toNatClampNeg ≤ m then (if m + 1 ≤ k.toNatClampNeg then nr S m k.toNatClampNeg else 0) else 0))) (k + 1) (qm_pos hk z) (qm_up z h)
      rw [nx_n hk z] at r
      rw [r]
      have e : s8 (fun m => if (0 : Int32).toNatClampNeg ≤ m then (if m + 1 ≤ k.toNatClampNeg then nr S m k.toNatClampNeg else 0) else 0) = s8 (fun m => if m + 1 ≤ k.toNatClampNeg then nr S m k.toNatClampNeg else 0) := s8_c (fun m _ => if_pos (Nat.zero_le m))
      rw [e]
theorem hn_v {S : sX} {T : sM} (hR : Rw0 S T) (hI : IM T) : r_X5_nearPairs S = (lf_X7_house_52 4 9 0 0 T).1 := by
  have a := np_4 (S := S) 9 0 0 (by decide) (by decide)
  have b := hp_52 (S := S) hR hI 9 0 0 (by decide) (by decide)
  have e : r_X5_nearPairs S = lr_X5_nearPairs_4 9 0 0 S := rfl
  rw [e, a, b]
  have f := s8_f (fun x y => if x + 1 ≤ y then nr S x y else 0)
  have g1 : s8 (fun x => if (0 : Int32).toNatClampNeg ≤ x then s8 (fun m => if x + 1 ≤ m then nr S x m else 0) else 0) = s8 (fun x => s8 (fun m => if x + 1 ≤ m then nr S x m else 0)) := s8_c (fun m _ => if_pos (Nat.zero_le m))
  have g2 : s8 (fun x => if (0 : Int32).toNatClampNeg ≤ x then s8 (fun m => if m + 1 ≤ x then nr S m x else 0) else 0) = s8 (fun x => s8 (fun m => if m + 1 ≤ x then nr S m x else 0)) := s8_c (fun m _ => if_pos (Nat.zero_le m))
  rw [g1, g2, f]
/-- what the house tells -/
theorem hou_v {w : Int32} {S : sX} {T : sM} (hR : Rw S T) (hI : IM T) (g : ¬ w < 0 ∧ ¬ 4 < w) : r_X5_house w S = (if 3 ≤ w then (lf_X7_house_52 w 9 0 0 T).1 else if w = 0 then T.2.2.2.1 else if w = 1 then T.2.2.2.2.1 else T.2.2.2.2.2.1) := by
  have h5 : w = 0 ∨ w = 1 ∨ w = 2 ∨ w = 3 ∨ w = 4 := by
    obtain ⟨a, b⟩ := g
    rw [Int32.lt_iff_toInt_lt] at a b
    have e0 : (0 : Int32).toInt = 0 := rfl
    have e1 : (1 : Int32).toInt = 1 := rfl
    have e2 : (2 : Int32).toInt = 2 := rfl
    have e3 : (3 : Int32).toInt = 3 := rfl
    have e4 : (4 : Int32).toInt = 4 := rfl
    rcases (show w.toInt = 0 ∨ w.toInt = 1 ∨ w.toInt = 2 ∨ w.toInt = 3 ∨ w.toInt = 4 by omega) with e | e | e | e | e
    · exact Or.inl (Int32.toInt_inj.mp (e.trans e0.symm))
    · exact Or.inr (Or.inl (Int32.toInt_inj.mp (e.trans e1.symm)))
    · exact Or.inr (Or.inr (Or.inl (Int32.toInt_inj.mp (e.trans e2.symm))))
    · exact Or.inr (Or.inr (Or.inr (Or.inl (Int32.toInt_inj.mp (e.trans e3.symm)))))
    · exact Or.inr (Or.inr (Or.inr (Or.inr (Int32.toInt_inj.mp (e.trans e4.symm)))))
  unfold r_X5_house
  rcases h5 with rfl | rfl | rfl | rfl | rfl
  · rw [if_pos rfl, if_neg (by decide), if_pos rfl]
    exact hR.2
  · rw [if_neg (by decide), if_pos rfl, if_neg (by decide), if_neg (by decide), if_pos rfl]
    exact hR.1.2.2.1
  · rw [if_neg (by decide), if_neg (by decide), if_pos rfl, if_neg (by decide), if_neg (by decide), if_neg (by decide)]
    exact hR.1.2.2.2
  · rw [if_neg (by decide), if_neg (by decide), if_neg (by decide), if_pos rfl, if_pos (by decide)]
    exact hq_v hR.1 hI 9 0 0 (by decide) (by decide)
  · rw [if_neg (by decide), if_neg (by decide), if_neg (by decide), if_neg (by decide), if_pos (by decide)]
    exact hn_v hR.1 hI
