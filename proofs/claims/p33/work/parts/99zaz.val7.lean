/-! the row of nothing -/
theorem qv_nzl (f : Nat → Int32) : ∀ (fu : Nat) (k : Int32), ((11 : Int32).toInt - k.toInt).toNat < fu → 0 ≤ k.toInt → ¬ lr_X7_isNothing_7 f fu k = 0 → ∀ j : Nat, k.toInt ≤ j → j < 11 → f j = 0
  | 0, _, z, _, _ => absurd z (Nat.not_lt_zero _)
  | fu + 1, k, z, hk, h => by
    have e11 : (11 : Int32).toInt = 11 := rfl
    by_cases zc : 11 ≤ k
    · have z1 := Int32.le_iff_toInt_le.mp zc
      intro j h1 h2
      omega
    · rw [lr_X7_isNothing_7, if_neg zc] at h
      by_cases z0 : f k.toNatClampNeg = 0
      · rw [if_pos z0] at h
        have ei := qm_inc zc
        have ih := qv_nzl f fu (k + 1) (qm_up zc z) (by omega) h
        intro j h1 h2
        by_cases e : j = k.toNatClampNeg
        · rw [e]; exact z0
        · have ek : k.toNatClampNeg = k.toInt.toNat := rfl
          exact ih j (by omega) h2
      · rw [if_neg z0] at h
        exact absurd rfl h
theorem qv_nz {f : Nat → Int32} (h : ¬ r_X7_isNothing f = 0) : tv f 0 11 = 0 := tv_0 11 0 (fun j _ hj => qv_nzl f 12 0 (by decide) (by decide) h j (by have : (0 : Int32).toInt = 0 := rfl; omega) (by omega))
/-! a division into another row -/
theorem qv_div2 {by9 : Int32} (hb : 0 < by9.toInt) (g : Nat → Int32) : ∀ (fu : Nat) (lf : Int64) (k : Int32) (f : Nat → Int32), (k.toInt + 1).toNat < fu → -1 ≤ k.toInt → 0 ≤ lf.toInt → lf.toInt < by9.toInt →
    tv (lr_X7_divide_6 by9 g fu lf k f) 0 (k.toInt + 1).toNat = (lf.toInt.toNat * qB ^ (k.toInt + 1).toNat + tv g 0 (k.toInt + 1).toNat) / by9.toInt.toNat ∧ ∀ j : Nat, k.toInt < j → lr_X7_divide_6 by9 g fu lf k f j = f j
  | 0, _, _, _, h, _, _, _ => absurd h (Nat.not_lt_zero _)
  | fu + 1, lf, k, f, h, hk, hl0, hl1 => by
    by_cases zc : k < 0
    · rw [lr_X7_divide_6, if_pos zc]
      have z := Int32.lt_iff_toInt_lt.mp zc
      have e0 : (0 : Int32).toInt = 0 := rfl
      have e1 : (k.toInt + 1).toNat = 0 := by omega
      rw [e1]
      refine ⟨?_, fun _ _ => rfl⟩
      have e2 : tv g 0 0 = 0 := rfl
      rw [e2, tv, Nat.pow_zero, Nat.mul_one, Nat.add_zero, Nat.div_eq_of_lt (by omega)]
    · have hz := qm_z zc
      have hB := Int32.toInt_lt by9
      have ed := qm_decI zc
      have en : ((k + -1).toInt + 1).toNat = k.toInt.toNat := by omega
      have em : (k.toInt + 1).toNat = k.toInt.toNat + 1 := by omega
      have g5 : 0 < by9.toInt.toNat := by omega
      have eL := qv_ls hl0 (by omega) (g k.toNatClampNeg)
      rw [lr_X7_divide_6, if_neg zc]
      generalize ((lf <<< ((32 : Int32).toInt64 &&& 63)) ||| (((g k.toNatClampNeg).toInt64) &&& 4294967295)) = L at eL ⊢
      obtain ⟨s1, s2, s3⟩ := qv_st hb hl0 hl1 eL
      obtain ⟨i1, i2⟩ := qv_div2 hb g fu (L - L / by9.toInt64 * by9.toInt64) (k + -1) (upd f k.toNatClampNeg (L / by9.toInt64).toInt32) (by omega) (by omega) s1 s2
      have ek : k.toNatClampNeg = k.toInt.toNat := rfl
      rw [en] at i1
      rw [ek] at i1 i2 s3 ⊢
      have j1 : lr_X7_divide_6 by9 g fu (L - L / by9.toInt64 * by9.toInt64) (k + -1) (upd f k.toInt.toNat (L / by9.toInt64).toInt32) k.toInt.toNat = (L / by9.toInt64).toInt32 := by
        rw [i2 k.toInt.toNat (by omega), upd_same]
      refine ⟨?_, fun j hj => ?_⟩
      · rw [em, tv_snoc _ k.toInt.toNat 0, tv_snoc g k.toInt.toNat 0, Nat.zero_add, i1, j1, Nat.pow_succ]
        exact (qa_div g5 s3).symm
      · rw [i2 j (by omega)]
        exact upd_ne _ _ (by omega)
theorem qv_divB {by9 : Int32} (hb : 0 < by9.toInt) (g f : Nat → Int32) : tv (r_X7_divide by9 g f) 0 11 = tv g 0 11 / by9.toInt.toNat := by
  have h := (qv_div2 hb g 12 (0 : Int64) (10 : Int32) f (by decide) (by decide) (by decide) hb).1
  have e : ((10 : Int32).toInt + 1).toNat = 11 := rfl
  have e0 : (0 : Int64).toInt.toNat = 0 := rfl
  rw [e, e0, Nat.zero_mul, Nat.zero_add] at h
  unfold r_X7_divide
  exact h
/-! roots of e, logarithms of ratios -/
def rootN (b : Bool) : Nat → Nat → Nat → Nat → Option Nat
  | 0, _, _, _ => none
  | F + 1, n, s, p => if p = 0 then some s else rootN b F (n + 1) (if (b && n % 2 == 1) = true then (s + (qB ^ 11 - p / (4 * n))) % qB ^ 11 else (s + p / (4 * n)) % qB ^ 11) (p / (4 * n))
theorem qm_odd {n : Int32} (h0 : 0 < n.toInt) : (n - n / 2 * 2 = 1) ↔ n.toInt.toNat % 2 = 1 := by
  have h1 := Int32.toInt_lt n
  have e2 : (2 : Int32).toInt = 2 := rfl
  have e1 : (1 : Int32).toInt = 1 := rfl
  have ed : (n / 2).toInt = n.toInt / 2 := by
    rw [Int32.toInt_div, e2, Int.tdiv_eq_ediv_of_nonneg (by omega), Int.bmod_eq_of_le (by omega) (by omega)]
  rw [← Int32.toInt_inj, Int32.toInt_sub, Int32.toInt_mul, ed, e2, e1, Int.bmod_eq_of_le (n := n.toInt / 2 * 2) (by omega) (by omega), Int.bmod_eq_of_le (by omega) (by omega)]
  omega
theorem qv_root (isB : Int32) : ∀ (F fu : Nat) (n : Int32) (f1 f2 : Nat → Int32) (s : Nat), qi_root n f2 → 0 < n.toInt → tv f2 0 11 < fu → rootN (decide (¬ isB = 0)) F n.toInt.toNat (tv f1 0 11) (tv f2 0 11) = some s → tv (lr_X7_root_12 isB fu n f1 f2).1 0 11 = s := by
  intro F
  induction F with
  | zero => intro fu n f1 f2 s _ _ _ h; exact nomatch h
  | succ F ih =>
    intro fu n f1 f2 s hq hn hf h
    obtain ⟨fu, rfl⟩ : ∃ x, fu = x + 1 := ⟨fu - 1, by omega⟩
    rw [rootN] at h
    rw [lr_X7_root_12]
    by_cases zn : r_X7_isNothing f2 = 0
    · rw [if_neg (Nat.ne_of_gt (qv_pos zn))] at h
      rw [if_pos zn]
      have b1 := qi_rb hq zn
      have b2 := qi_4 hn b1
      have b3 : 0 < (4 * n).toInt := by omega
      have ev := qv_divA b3 f2
      have b4 : (4 * n).toInt.toNat = 4 * n.toInt.toNat := by omega
      have e1 : (1 : Int32).toInt = 1 := rfl
      have b5 : (n + 1).toInt = n.toInt + 1 := by rw [Int32.toInt_add, e1, Int.bmod_eq_of_le (by omega) (by omega)]
      have b6 : (n + 1).toInt.toNat = n.toInt.toNat + 1 := by omega
      rw [b4] at ev
      have q1 := qi_rn hq zn
      have q2 := qi_rt hq zn hf
      have a0 := qv_add0 (r_X7_divideA (4 * n) f2) f1
      rw [ev] at a0
      by_cases zi : isB = 0
      · rw [if_pos zi]
        refine ih fu (n + 1) _ _ s q1 (by omega) q2 ?_
        rw [b6, a0, ev]
        rw [if_neg (by rw [decide_eq_false (fun z => z zi)]; simp)] at h
        exact h
      · rw [if_neg zi]
        by_cases zo : n - n / 2 * 2 = 1
        · rw [if_pos zo]
          have a1 := qv_add1 (r_X7_divideA (4 * n) f2) f1 (isL := 1) (by decide)
          rw [ev] at a1
          refine ih fu (n + 1) _ _ s q1 (by omega) q2 ?_
          rw [b6, a1, ev]
          rw [if_pos (by rw [decide_eq_true zi, (qm_odd hn).mp zo]; rfl)] at h
          exact h
        · rw [if_neg zo]
          have zo2 : ¬ n.toInt.toNat % 2 = 1 := fun z => zo ((qm_odd hn).mpr z)
          refine ih fu (n + 1) _ _ s q1 (by omega) q2 ?_
          rw [b6, a0, ev]
          rw [if_neg (fun z => zo2 (beq_iff_eq.mp ((Bool.and_eq_true _ _).mp z).2))] at h
          exact h
    · rw [qv_nz zn, if_pos rfl] at h
      rw [if_neg zn]
      exact Option.some.inj h
def ratN (b : Bool) (sz d : Nat) : Nat → Nat → Nat → Nat → Option Nat
  | 0, _, _, _ => none
  | F + 1, n, p, s => if p = 0 then some ((s + s) % qB ^ 11) else ratN b sz d F (n + 2) (sz * sz * p % qB ^ 11 / (d * d)) (if b = true then (s + (qB ^ 11 - p / n)) % qB ^ 11 else (s + p / n) % qB ^ 11)
theorem qv_rat {a9 b9 : Int32} (ha0 : 0 ≤ (f_J9_abs_0f7a4 a9).toInt) (hb0 : 0 < b9.toInt) (hb1 : b9.toInt ≤ 1000) (hab : 3 * (f_J9_abs_0f7a4 a9).toInt ≤ b9.toInt) : ∀ (F fu : Nat) (n : Int32) (f1 f2 f3 : Nat → Int32) (s : Nat), qi_rat n f1 → 0 < n.toInt → tv f1 0 11 < fu → ratN (decide (¬ 0 ≤ a9)) (f_J9_abs_0f7a4 a9).toInt.toNat b9.toInt.toNat F n.toInt.toNat (tv f1 0 11) (tv f3 0 11) = some s → tv (lr_X7_ratioLog_33 a9 b9 fu n f1 f2 f3).2.2 0 11 = s := by
  intro F
  induction F with
  | zero => intro fu n f1 f2 f3 s _ _ _ h; exact nomatch h
  | succ F ih =>
    intro fu n f1 f2 f3 s hq hn hf h
    obtain ⟨fu, rfl⟩ : ∃ x, fu = x + 1 := ⟨fu - 1, by omega⟩
    rw [ratN] at h
    rw [lr_X7_ratioLog_33]
    by_cases zn : r_X7_isNothing f1 = 0
    · rw [if_neg (Nat.ne_of_gt (qv_pos zn))] at h
      rw [if_pos zn]
      have b1 := qi_ab hq zn
      have e2 : (2 : Int32).toInt = 2 := rfl
      have b5 : (n + 2).toInt = n.toInt + 2 := by rw [Int32.toInt_add, e2, Int.bmod_eq_of_le (by omega) (by omega)]
      have b6 : (n + 2).toInt.toNat = n.toInt.toNat + 2 := by omega
      have c1 := qi_sq (b := f_J9_abs_0f7a4 a9) ha0 (by omega)
      have c2 := qi_sp hb0 hb1
      have c3 := qi_sq (b := b9) (by omega) hb1
      have ev := qv_divA c2 (r_X7_multiply (f_J9_abs_0f7a4 a9 * f_J9_abs_0f7a4 a9) f1)
      rw [qv_mulA (by rw [c1]; exact Int.mul_nonneg ha0 ha0), c1, c3, Int.toNat_mul ha0 ha0, Int.toNat_mul (by omega) (by omega)] at ev
      have q1 := qi_an ha0 hb0 hb1 hab hq zn
      have q2 := qi_at ha0 hb0 hb1 hab zn hf
      have dv := qv_divB hn f1 f2
      by_cases zi : 0 ≤ a9
      · rw [if_pos zi]
        have a0 := qv_add0 (r_X7_divide n f1 f2) f3
        rw [dv] at a0
        refine ih fu (n + 2) _ _ _ s q1 (by omega) q2 ?_
        rw [b6, a0, ev]
        rw [if_neg (by rw [decide_eq_false (fun z => z zi)]; decide)] at h
        exact h
      · rw [if_neg zi]
        have a1 := qv_add1 (r_X7_divide n f1 f2) f3 (isL := 1) (by decide)
        rw [dv] at a1
        refine ih fu (n + 2) _ _ _ s q1 (by omega) q2 ?_
        rw [b6, a1, ev]
        rw [if_pos (decide_eq_true zi)] at h
        exact h
    · rw [qv_nz zn, if_pos rfl] at h
      rw [if_neg zn]
      show tv (r_X7_addA 0 f3) 0 11 = s
      rw [qv_add2]
      exact Option.some.inj h
theorem qv_rootA (isB : Int32) (s : Nat) (h : rootN (decide (¬ isB = 0)) 60 1 (2 ^ 256) (2 ^ 256) = some s) : tv (r_X7_root isB).1 0 11 = s := by
  have e : tv (r_X7_quarterOf 4) 0 11 = 2 ^ 256 := (qv_qpos (q := 4) (by decide)).trans (by decide)
  unfold r_X7_root
  refine qv_root isB 60 _ 1 _ _ s (qi_r0 _) (by decide) (Nat.lt_succ_self _) ?_
  rw [e]
  exact h
theorem qv_ratA {a9 b9 : Int32} (ha0 : 0 ≤ (f_J9_abs_0f7a4 a9).toInt) (hb0 : 0 < b9.toInt) (hb1 : b9.toInt ≤ 1000) (hab : 3 * (f_J9_abs_0f7a4 a9).toInt ≤ b9.toInt) (s : Nat) (h : ratN (decide (¬ 0 ≤ a9)) (f_J9_abs_0f7a4 a9).toInt.toNat b9.toInt.toNat 100 1 ((f_J9_abs_0f7a4 a9).toInt.toNat * 2 ^ 256 / b9.toInt.toNat) 0 = some s) : tv (r_X7_ratioLog a9 b9).2.2 0 11 = s := by
  have e4 : (4 : Int32).toInt = 4 := rfl
  have em : (4 * f_J9_abs_0f7a4 a9).toInt = 4 * (f_J9_abs_0f7a4 a9).toInt := by rw [Int32.toInt_mul, e4, Int.bmod_eq_of_le (by omega) (by omega)]
  have e := qv_qpos (q := 4 * f_J9_abs_0f7a4 a9) (by omega)
  have ed := qv_divA hb0 (r_X7_quarterOf (4 * f_J9_abs_0f7a4 a9))
  have en : (4 * f_J9_abs_0f7a4 a9).toInt.toNat = (f_J9_abs_0f7a4 a9).toInt.toNat * 4 := by omega
  have ep : (f_J9_abs_0f7a4 a9).toInt.toNat * 4 * 2 ^ 254 = (f_J9_abs_0f7a4 a9).toInt.toNat * 2 ^ 256 := by rw [Nat.mul_assoc]
  have ez : tv (fun _ => (0 : Int32)) 0 11 = 0 := tv_0 11 0 (fun _ _ _ => rfl)
  rw [e, en, ep] at ed
  unfold r_X7_ratioLog
  refine qv_rat ha0 hb0 hb1 hab 100 _ 1 _ _ _ s (qi_a0 _) (by decide) (Nat.lt_succ_self _) ?_
  rw [ed, ez]
  exact h
