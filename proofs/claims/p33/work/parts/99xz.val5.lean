theorem qv_t23z (f g : Nat → Int32) (f1 : Nat → Int32) (hf : tv f1 0 (11 + 11) = tv f 0 11 * tv g 0 11) : tv (lr_X7_times_131 f g 12 0 f1 (fun _ => 0)).2 0 11 = tv f 0 11 * tv g 0 11 / qB ^ 8 % qB ^ 11 := by
  obtain ⟨-, h2⟩ := qv_t131 f g 12 0 f1 (fun _ => 0) (by decide) (by decide) (fun j hj => absurd hj (by have : (0 : Int32).toInt = 0 := rfl; omega))
  have h3 := tv_sh f1 11 0 (lr_X7_times_131 f g 12 0 f1 (fun _ => 0)).2 (by omega) h2
  have h4 := tv_cut f1 8 11 3 0
  have e22 : (8 + (11 + 3) : Nat) = 11 + 11 := rfl
  have e8 : (8 + 0 : Nat) = 0 + 8 := rfl
  rw [h3, e8, ← h4, e22, hf]
theorem qv_t23s {f g f1 f2 : Nat → Int32} {i : Nat} {c : Int32} {cy : Nat} (hc : qu c = cy) (i2 : cy * qB ^ 11 + tv f2 i 11 = qu (f i) * tv g 0 11 + tv f1 i 11) (i3 : ∀ j : Nat, j < i → f2 j = f1 j) (hf : tv f1 0 (i + 11) = tv f 0 i * tv g 0 11) : tv (upd f2 (i + 11) c) 0 (i + 1 + 11) = tv f 0 (i + 1) * tv g 0 11 := by
  have a1 : i + 1 + 11 = (i + 11) + 1 := by omega
  have j2 : tv (upd f2 (i + 11) c) 0 (i + 11) = tv f2 0 (i + 11) := tv_congr _ _ fun j _ hj => upd_ne _ _ (by omega)
  have s1 := tv_split f2 11 i 0
  have s2 := tv_split f1 11 i 0
  have j3 : tv f2 0 i = tv f1 0 i := tv_congr _ _ fun j _ hj => i3 j (by omega)
  have s3 := tv_snoc f i 0
  have s4 := tv_snoc (upd f2 (i + 11) c) (i + 11) 0
  rw [Nat.zero_add] at s1 s2 s3 s4
  rw [upd_same, hc] at s4
  rw [a1, s4, j2, s1, j3, Nat.pow_add qB i 11, qa_t i2, ← s2, hf, s3, Nat.add_mul]
theorem qv_t23 (f g : Nat → Int32) : ∀ (fu : Nat) (i : Int32) (f1 : Nat → Int32), ((11 : Int32).toInt - i.toInt).toNat < fu → 0 ≤ i.toInt → i.toInt ≤ 11 → tv f1 0 (i.toInt.toNat + 11) = tv f 0 i.toInt.toNat * tv g 0 11 → tv (lr_X7_times_23 f g fu i f1).2 0 11 = tv f 0 11 * tv g 0 11 / qB ^ 8 % qB ^ 11 := by
  intro fu
  induction fu with
  | zero => intro _ _ h; exact absurd h (Nat.not_lt_zero _)
  | succ fu ih =>
    intro i f1 h hi hi2 hf
    have e11 : (11 : Int32).toInt = 11 := rfl
    by_cases zc : 11 ≤ i
    · rw [lr_X7_times_23, if_pos zc]
      have z := Int32.le_iff_toInt_le.mp zc
      have ei : i.toInt.toNat = 11 := by omega
      rw [ei] at hf
      exact qv_t23z f g f1 hf
    · rw [lr_X7_times_23, if_neg zc]
      have ei := qm_inc zc
      have z := qm_lt zc
      obtain ⟨cy2, f2, i0, i1, i2, i3⟩ := qv_t35 i f g (fun cy99 f19 => lr_X7_times_23 f g fu (i + 1) (upd f19 (i + 11).toNatClampNeg cy99.toInt32)) hi (by omega) 12 11 (0 : Int64) (0 : Int32) f1 (by decide) (by decide) (by decide) (by rw [qB_e]; decide)
      rw [i0]
      have e0 : (0 : Int32).toInt.toNat = 0 := rfl
      have e1 : un (0 : Int64) = 0 := rfl
      rw [e0, e1, Nat.add_zero, Nat.zero_add] at i2
      rw [e0, Nat.add_zero] at i3
      have en : (i + 1).toInt.toNat = i.toInt.toNat + 1 := by omega
      have e11i : (i + 11).toNatClampNeg = i.toInt.toNat + 11 := by
        show (i + 11).toInt.toNat = _
        rw [Int32.toInt_add, e11, Int.bmod_eq_of_le (by omega) (by omega)]
        omega
      refine ih (i + 1) _ (qm_up zc h) (by omega) (by omega) ?_
      rw [en, e11i]
      exact qv_t23s ((un_lo32 cy2).trans (Nat.mod_eq_of_lt i1)) i2 i3 hf
theorem qv_t2 (f g : Nat → Int32) : ∀ (fu : Nat) (k : Int32) (f1 : Nat → Int32), ((22 : Int32).toInt - k.toInt).toNat < fu → 0 ≤ k.toInt → (∀ j : Nat, (j : Int) < k.toInt → f1 j = 0) → ∃ f2 : Nat → Int32, lr_X7_times_2 f g fu k f1 = lr_X7_times_23 f g 12 0 f2 ∧ ∀ j : Nat, j < 22 → f2 j = 0
  | 0, _, _, h, _, _ => absurd h (Nat.not_lt_zero _)
  | fu + 1, k, f1, h, hk, hf => by
    have e22 : (22 : Int32).toInt = 22 := rfl
    by_cases zc : 22 ≤ k
    · rw [lr_X7_times_2, if_pos zc]
      have z := Int32.le_iff_toInt_le.mp zc
      exact ⟨f1, rfl, fun j hj => hf j (by omega)⟩
    · rw [lr_X7_times_2, if_neg zc]
      have ei := qm_inc zc
      refine qv_t2 f g fu (k + 1) _ (qm_up zc h) (by omega) (fun j hj => ?_)
      by_cases e : j = k.toNatClampNeg
      · rw [e, upd_same]
      · rw [upd_ne _ _ e]
        have ek : k.toNatClampNeg = k.toInt.toNat := rfl
        exact hf j (by omega)
theorem tv_0 {f : Nat → Int32} : ∀ (c m : Nat), (∀ j, m ≤ j → j < m + c → f j = 0) → tv f m c = 0
  | 0, _, _ => rfl
  | c + 1, m, h => by
    rw [tv, h m (Nat.le_refl _) (by omega), tv_0 c (m + 1) (fun j a b => h j (by omega) (by omega))]
    rfl
theorem qv_times (p f g : Nat → Int32) : tv (r_X7_times p f g).2 0 11 = tv f 0 11 * tv g 0 11 / qB ^ 8 % qB ^ 11 := by
  obtain ⟨f2, h1, h2⟩ := qv_t2 f g 23 0 p (by decide) (by decide) (fun j hj => absurd hj (by have : (0 : Int32).toInt = 0 := rfl; omega))
  unfold r_X7_times
  rw [h1]
  refine qv_t23 f g 12 0 f2 (by decide) (by decide) (by decide) ?_
  have e0 : (0 : Int32).toInt.toNat = 0 := rfl
  have e9 : tv f 0 0 = 0 := rfl
  rw [e0, Nat.zero_add, tv_0 11 0 (fun j _ hj => h2 j (by omega)), e9, Nat.zero_mul]
