def lf_X7_sort_39 (k9 : Int32)  : Nat → Int32 → (Nat → Int32) → sM → Int32 × (Nat → Int32)
  | 0, n9, g49, S => (n9, g49)
  | fu + 1, n9, g49, S => if 8 ≤ n9 then (n9, g49) else if (r_X7_orderOf n9 k9 S) < 0 then lf_X7_sort_39 k9 fu (n9 + 1) (upd g49 k9.toNatClampNeg ((g49 k9.toNatClampNeg) + 1)) S else if (r_X7_orderOf n9 k9 S) = 0 then if k9 ≤ n9 then lf_X7_sort_39 k9 fu (n9 + 1) (upd g49 k9.toNatClampNeg ((g49 k9.toNatClampNeg) + 0)) S else lf_X7_sort_39 k9 fu (n9 + 1) (upd g49 k9.toNatClampNeg ((g49 k9.toNatClampNeg) + 1)) S else lf_X7_sort_39 k9 fu (n9 + 1) (upd g49 k9.toNatClampNeg ((g49 k9.toNatClampNeg) + 0)) S
set_option maxRecDepth 4000 in
theorem lq_X7_sort_39 (k9 : Int32) (A : qA) (S : sM) (hp0 : qq_H) (r49 : Nat) (zI : IM S) (zhi : ms_A A r49) (z80 : 80 ≤ r49) (zfr : hp0.1 ≤ r49) (zk9 : vp_in k9 8) {P : Option Value → qq_H → Prop} {PX : String → qq_H → Prop} : ∀ (fu : Nat) (n9 : Int32) (g49 : (Nat → Int32)) (hp : qq_H) , ms_M A S hp → fr A hp0 hp → hp.2 r49 = .inl (0, 8, .inl g49) → r49 < hp.1 → ¬ n9 < 0 → ((8 : Int32).toInt - n9.toInt).toNat < fu → ∀ (bc bs : Nat), (∀ hp' : qq_H, ms_M A S hp' → fr A hp0 hp' → hp'.2 r49 = .inl (0, 8, .inl (lf_X7_sort_39 k9 fu n9 g49 S).2) → r49 < hp'.1 → qq_Go mX7_sort hp' bc bs 92 [(0, .ref 84), (1, .ref A.1), (2, .ref A.2.1), (3, .ref A.2.2), (4, .ref r49), (5, .int k9)] [] P PX) → qq_Go mX7_sort hp (6 * fu + bc) (66 * fu + bs) 39 [(0, .ref 84), (1, .ref A.1), (2, .ref A.2.1), (3, .ref A.2.2), (4, .ref r49), (5, .int k9), (6, .int n9)] [] P PX := by
  intro fu
  induction fu with
  | zero => intro n9 g49 hp hS hf hr4 hl4 zp zz; exact absurd zz (Nat.not_lt_zero _)
  | succ fu lqih =>
    intro n9 g49 hp hS hf hr4 hl4 zp zh bc bs hk
    refine qq_iload dX7_sort_39 6 rfl ?_
    refine qq_bipush (v := 8) dX7_sort_41 (by decide) ?_
    refine qq_icmp_ge (tgt := 92) dX7_sort_43 (by decide) (fun zc1 => ?_) (fun zc1 => ?_)
    · have ze : lf_X7_sort_39 k9 (fu + 1) n9 g49 S = (n9, g49) := by
        rw [lf_X7_sort_39, if_pos zc1]
      rw [ze] at hk
      refine qq_loc [0, 1, 2, 3, 4, 5] rfl ?_
      refine qq_less (bc' := bc) (bs' := bs) (by omega) (by omega) ?_
      exact hk hp hS hf hr4 hl4
    · refine qq_aload_n dX7_sort_46 rfl 0 rfl ?_
      refine qq_iload dX7_sort_47 6 rfl ?_
      refine qq_iload dX7_sort_49 5 rfl ?_
      refine qq_less (bc' := 6 * fu + bc + 6) (bs' := 66 * fu + bs + 66) (by omega) (by omega) ?_
      refine qq_callV (bc := 6 * fu + bc) (bs := 66 * fu + bs) (mc := 6) (ms := 66) (o := 84) (ci := 4) (N := 11) (T := TX7) (as := [.int n9, .int k9]) (rest := []) dX7_sort_51 hS.2.2.1 (by decide) rfl (mt_X7_orderOf hp A S hS n9 k9 (qm_in8 zp zc1) zk9 zI) rfl kl_X7_168 kn_X7_orderOf ke_X7_orderOf ki_X7 kc_X7_orderOf kd_X7_orderOf rfl (by decide) (by decide) (Nat.le_of_ble_eq_true rfl) (fun v hp1 hv _ _ => ?_) (fun E hp' zx _ _ => zx.elim)
      obtain ⟨rfl, hS1, fr1⟩ := hv
      have hr_1 := (fr_hi fr1 hl4 zhi hr4)
      have hl_1 := fr_l fr1 hl4
      show qq_Go _ hp1 (6 * fu + bc) (66 * fu + bs) 54 [(0, .ref 84), (1, .ref A.1), (2, .ref A.2.1), (3, .ref A.2.2), (4, .ref r49), (5, .int k9), (6, .int n9)] [.int (r_X7_orderOf n9 k9 S)] _ _
      refine qq_istore (loc' := [(0, .ref 84), (1, .ref A.1), (2, .ref A.2.1), (3, .ref A.2.2), (4, .ref r49), (5, .int k9), (6, .int n9), (7, .int (r_X7_orderOf n9 k9 S))]) dX7_sort_54 [1, 2, 3, 4, 5, 6, 7, 0] (Nat.le_of_ble_eq_true rfl) rfl ?_
      refine qq_aload dX7_sort_56 4 rfl ?_
      refine qq_iload dX7_sort_58 5 rfl ?_
      refine qq_dup2 dX7_sort_60 rfl rfl ?_
      refine qq_iald dX7_sort_61 hr_1 zk9 ?_
      refine qq_iload dX7_sort_62 7 rfl ?_
      refine qq_if_lt (tgt := 79) dX7_sort_64 (by decide) (fun zc2 => ?_) (fun zc2 => ?_)
      · refine qq_iconst (v := 1) dX7_sort_79 (by decide) ?_
        refine qq_goto (tgt := 84) dX7_sort_80 (by decide) ?_
        refine qq_iadd dX7_sort_84 ?_
        refine qq_iast dX7_sort_85 hr_1 z80 zk9 ?_
        obtain ⟨hp2, he2⟩ : ∃ h : qq_H, (hp1.1, va_up hp1.2 r49 (.inl (0, 8, .inl (upd g49 k9.toNatClampNeg ((g49 k9.toNatClampNeg) + 1))))) = h := ⟨_, rfl⟩
        obtain ⟨hS2, hr_n2, hl_n2, ff2⟩ := ms_s8 hS1 hr_1 zhi hl_1 he2 z80
        have fr2 := ff2 A _ (fr_t hf fr1) zfr
        refine qq_hp (hp2 := hp2) he2 ?_
        show qq_Go _ hp2 (6 * fu + bc) (66 * fu + bs) 86 [(0, .ref 84), (1, .ref A.1), (2, .ref A.2.1), (3, .ref A.2.2), (4, .ref r49), (5, .int k9), (6, .int n9), (7, .int (r_X7_orderOf n9 k9 S))] [] _ _
        refine qq_iinc (v := n9 + 1) (loc' := [(0, .ref 84), (1, .ref A.1), (2, .ref A.2.1), (3, .ref A.2.2), (4, .ref r49), (5, .int k9), (6, .int (n9 + 1)), (7, .int (r_X7_orderOf n9 k9 S))]) dX7_sort_86 6 rfl rfl [1, 2, 3, 4, 5, 6, 0, 7] (Nat.le_of_ble_eq_true rfl) rfl ?_
        refine qq_goto (tgt := 39) dX7_sort_89 (by decide) ?_
        have ze : lf_X7_sort_39 k9 (fu + 1) n9 g49 S = lf_X7_sort_39 k9 fu (n9 + 1) (upd g49 k9.toNatClampNeg ((g49 k9.toNatClampNeg) + 1)) S := by
          rw [lf_X7_sort_39, if_neg zc1, if_pos zc2]
        rw [ze] at hk
        refine qq_loc [0, 1, 2, 3, 4, 5, 6] rfl ?_
        refine qq_less (bc' := 6 * fu + bc) (bs' := 66 * fu + bs) (by omega) (by omega) ?_
        exact lqih (n9 + 1) (upd g49 k9.toNatClampNeg ((g49 k9.toNatClampNeg) + 1)) hp2 hS2 fr2 hr_n2 hl_n2 (qm_pos zp (by assumption)) (qm_up (by assumption) zh) bc bs hk
      · refine qq_iload dX7_sort_67 7 rfl ?_
        refine qq_if_ne (tgt := 83) dX7_sort_69 (by decide) (fun zc3 => ?_) (fun zc3 => ?_)
        · refine qq_iconst (v := 0) dX7_sort_83 (by decide) ?_
          refine qq_iadd dX7_sort_84 ?_
          refine qq_iast dX7_sort_85 hr_1 z80 zk9 ?_
          obtain ⟨hp3, he3⟩ : ∃ h : qq_H, (hp1.1, va_up hp1.2 r49 (.inl (0, 8, .inl (upd g49 k9.toNatClampNeg ((g49 k9.toNatClampNeg) + 0))))) = h := ⟨_, rfl⟩
          obtain ⟨hS3, hr_n3, hl_n3, ff3⟩ := ms_s8 hS1 hr_1 zhi hl_1 he3 z80
          have fr3 := ff3 A _ (fr_t hf fr1) zfr
          refine qq_hp (hp2 := hp3) he3 ?_
          show qq_Go _ hp3 (6 * fu + bc) (66 * fu + bs) 86 [(0, .ref 84), (1, .ref A.1), (2, .ref A.2.1), (3, .ref A.2.2), (4, .ref r49), (5, .int k9), (6, .int n9), (7, .int (r_X7_orderOf n9 k9 S))] [] _ _
          refine qq_iinc (v := n9 + 1) (loc' := [(0, .ref 84), (1, .ref A.1), (2, .ref A.2.1), (3, .ref A.2.2), (4, .ref r49), (5, .int k9), (6, .int (n9 + 1)), (7, .int (r_X7_orderOf n9 k9 S))]) dX7_sort_86 6 rfl rfl [1, 2, 3, 4, 5, 6, 0, 7] (Nat.le_of_ble_eq_true rfl) rfl ?_
          refine qq_goto (tgt := 39) dX7_sort_89 (by decide) ?_
          have ze : lf_X7_sort_39 k9 (fu + 1) n9 g49 S = lf_X7_sort_39 k9 fu (n9 + 1) (upd g49 k9.toNatClampNeg ((g49 k9.toNatClampNeg) + 0)) S := by
            rw [lf_X7_sort_39, if_neg zc1, if_neg zc2, if_neg zc3]
          rw [ze] at hk
          refine qq_loc [0, 1, 2, 3, 4, 5, 6] rfl ?_
          refine qq_less (bc' := 6 * fu + bc) (bs' := 66 * fu + bs) (by omega) (by omega) ?_
          exact lqih (n9 + 1) (upd g49 k9.toNatClampNeg ((g49 k9.toNatClampNeg) + 0)) hp3 hS3 fr3 hr_n3 hl_n3 (qm_pos zp (by assumption)) (qm_up (by assumption) zh) bc bs hk
        · refine qq_iload dX7_sort_72 6 rfl ?_
          refine qq_iload dX7_sort_74 5 rfl ?_
          refine qq_icmp_ge (tgt := 83) dX7_sort_76 (by decide) (fun zc4 => ?_) (fun zc4 => ?_)
          · refine qq_iconst (v := 0) dX7_sort_83 (by decide) ?_
            refine qq_iadd dX7_sort_84 ?_
            refine qq_iast dX7_sort_85 hr_1 z80 zk9 ?_
            obtain ⟨hp4, he4⟩ : ∃ h : qq_H, (hp1.1, va_up hp1.2 r49 (.inl (0, 8, .inl (upd g49 k9.toNatClampNeg ((g49 k9.toNatClampNeg) + 0))))) = h := ⟨_, rfl⟩
            obtain ⟨hS4, hr_n4, hl_n4, ff4⟩ := ms_s8 hS1 hr_1 zhi hl_1 he4 z80
            have fr4 := ff4 A _ (fr_t hf fr1) zfr
            refine qq_hp (hp2 := hp4) he4 ?_
            show qq_Go _ hp4 (6 * fu + bc) (66 * fu + bs) 86 [(0, .ref 84), (1, .ref A.1), (2, .ref A.2.1), (3, .ref A.2.2), (4, .ref r49), (5, .int k9), (6, .int n9), (7, .int (r_X7_orderOf n9 k9 S))] [] _ _
            refine qq_iinc (v := n9 + 1) (loc' := [(0, .ref 84), (1, .ref A.1), (2, .ref A.2.1), (3, .ref A.2.2), (4, .ref r49), (5, .int k9), (6, .int (n9 + 1)), (7, .int (r_X7_orderOf n9 k9 S))]) dX7_sort_86 6 rfl rfl [1, 2, 3, 4, 5, 6, 0, 7] (Nat.le_of_ble_eq_true rfl) rfl ?_
            refine qq_goto (tgt := 39) dX7_sort_89 (by decide) ?_
            have ze : lf_X7_sort_39 k9 (fu + 1) n9 g49 S = lf_X7_sort_39 k9 fu (n9 + 1) (upd g49 k9.toNatClampNeg ((g49 k9.toNatClampNeg) + 0)) S := by
              rw [lf_X7_sort_39, if_neg zc1, if_neg zc2, if_pos zc3, if_pos zc4]
            rw [ze] at hk
            refine qq_loc [0, 1, 2, 3, 4, 5, 6] rfl ?_
            refine qq_less (bc' := 6 * fu + bc) (bs' := 66 * fu + bs) (by omega) (by omega) ?_
            exact lqih (n9 + 1) (upd g49 k9.toNatClampNeg ((g49 k9.toNatClampNeg) + 0)) hp4 hS4 fr4 hr_n4 hl_n4 (qm_pos zp (by assumption)) (qm_up (by assumption) zh) bc bs hk
          · refine qq_iconst (v := 1) dX7_sort_79 (by decide) ?_
            refine qq_goto (tgt := 84) dX7_sort_80 (by decide) ?_
            refine qq_iadd dX7_sort_84 ?_
            refine qq_iast dX7_sort_85 hr_1 z80 zk9 ?_
            obtain ⟨hp5, he5⟩ : ∃ h : qq_H, (hp1.1, va_up hp1.2 r49 (.inl (0, 8, .inl (upd g49 k9.toNatClampNeg ((g49 k9.toNatClampNeg) + 1))))) = h := ⟨_, rfl⟩
            obtain ⟨hS5, hr_n5, hl_n5, ff5⟩ := ms_s8 hS1 hr_1 zhi hl_1 he5 z80
            have fr5 := ff5 A _ (fr_t hf fr1) zfr
            refine qq_hp (hp2 := hp5) he5 ?_
            show qq_Go _ hp5 (6 * fu + bc) (66 * fu + bs) 86 [(0, .ref 84), (1, .ref A.1), (2, .ref A.2.1), (3, .ref A.2.2), (4, .ref r49), (5, .int k9), (6, .int n9), (7, .int (r_X7_orderOf n9 k9 S))] [] _ _
            refine qq_iinc (v := n9 + 1) (loc' := [(0, .ref 84), (1, .ref A.1), (2, .ref A.2.1), (3, .ref A.2.2), (4, .ref r49), (5, .int k9), (6, .int (n9 + 1)), (7, .int (r_X7_orderOf n9 k9 S))]) dX7_sort_86 6 rfl rfl [1, 2, 3, 4, 5, 6, 0, 7] (Nat.le_of_ble_eq_true rfl) rfl ?_
            refine qq_goto (tgt := 39) dX7_sort_89 (by decide) ?_
            have ze : lf_X7_sort_39 k9 (fu + 1) n9 g49 S = lf_X7_sort_39 k9 fu (n9 + 1) (upd g49 k9.toNatClampNeg ((g49 k9.toNatClampNeg) + 1)) S := by
              rw [lf_X7_sort_39, if_neg zc1, if_neg zc2, if_pos zc3, if_neg zc4]
            rw [ze] at hk
            refine qq_loc [0, 1, 2, 3, 4, 5, 6] rfl ?_
            refine qq_less (bc' := 6 * fu + bc) (bs' := 66 * fu + bs) (by omega) (by omega) ?_
            exact lqih (n9 + 1) (upd g49 k9.toNatClampNeg ((g49 k9.toNatClampNeg) + 1)) hp5 hS5 fr5 hr_n5 hl_n5 (qm_pos zp (by assumption)) (qm_up (by assumption) zh) bc bs hk
def lf_X7_sort_29   : Nat → Int32 → (Nat → Int32) → sM → Int32 × (Nat → Int32)
  | 0, k9, g49, S => (k9, g49)
  | fu + 1, k9, g49, S => if 8 ≤ k9 then (k9, g49) else lf_X7_sort_29 fu (k9 + 1) ((lf_X7_sort_39 k9 9 (0 : Int32) g49 S).2) S
set_option maxRecDepth 4000 in
theorem lq_X7_sort_29  (A : qA) (S : sM) (hp0 : qq_H) (r49 : Nat) (zI : IM S) (zhi : ms_A A r49) (z80 : 80 ≤ r49) (zfr : hp0.1 ≤ r49) {P : Option Value → qq_H → Prop} {PX : String → qq_H → Prop} : ∀ (fu : Nat) (k9 : Int32) (g49 : (Nat → Int32)) (hp : qq_H) , ms_M A S hp → fr A hp0 hp → hp.2 r49 = .inl (0, 8, .inl g49) → r49 < hp.1 → ¬ k9 < 0 → ((8 : Int32).toInt - k9.toInt).toNat < fu → ∀ (bc bs : Nat), (∀ hp' : qq_H, ms_M A S hp' → fr A hp0 hp' → hp'.2 r49 = .inl (0, 8, .inl (lf_X7_sort_29 fu k9 g49 S).2) → r49 < hp'.1 → qq_Go mX7_sort hp' bc bs 98 [(0, .ref 84), (1, .ref A.1), (2, .ref A.2.1), (3, .ref A.2.2), (4, .ref r49)] [] P PX) → qq_Go mX7_sort hp (54 * fu + bc) (594 * fu + bs) 29 [(0, .ref 84), (1, .ref A.1), (2, .ref A.2.1), (3, .ref A.2.2), (4, .ref r49), (5, .int k9)] [] P PX := by
  intro fu
  induction fu with
  | zero => intro k9 g49 hp hS hf hr4 hl4 zp zz; exact absurd zz (Nat.not_lt_zero _)
  | succ fu lqih =>
    intro k9 g49 hp hS hf hr4 hl4 zp zh bc bs hk
    refine qq_iload dX7_sort_29 5 rfl ?_
    refine qq_bipush (v := 8) dX7_sort_31 (by decide) ?_
    refine qq_icmp_ge (tgt := 98) dX7_sort_33 (by decide) (fun zc1 => ?_) (fun zc1 => ?_)
    · have ze : lf_X7_sort_29 (fu + 1) k9 g49 S = (k9, g49) := by
        rw [lf_X7_sort_29, if_pos zc1]
      rw [ze] at hk
      refine qq_loc [0, 1, 2, 3, 4] rfl ?_
      refine qq_less (bc' := bc) (bs' := bs) (by omega) (by omega) ?_
      exact hk hp hS hf hr4 hl4
    · refine qq_iconst (v := 0) dX7_sort_36 (by decide) ?_
      refine qq_istore (loc' := [(0, .ref 84), (1, .ref A.1), (2, .ref A.2.1), (3, .ref A.2.2), (4, .ref r49), (5, .int k9), (6, .int 0)]) dX7_sort_37 [1, 2, 3, 4, 5, 6, 0] (Nat.le_of_ble_eq_true rfl) rfl ?_
      refine qq_less (bc' := 54 * fu + bc + 54) (bs' := 594 * fu + bs + 594) (by omega) (by omega) ?_
      refine qq_less (bc' := 6 * 9 + (54 * fu + bc)) (bs' := 66 * 9 + (594 * fu + bs)) (by omega) (by omega) ?_
      refine lq_X7_sort_39 k9 A S hp0 r49 zI zhi z80 zfr (qm_in8 zp zc1) 9 (0 : Int32) g49 hp hS hf hr4 hl4 (by decide) (by decide) (54 * fu + bc) (594 * fu + bs) (fun hp1 hS1 fr1 hr_v4_1 hl_v4_1 => ?_)
      show qq_Go _ hp1 (54 * fu + bc) (594 * fu + bs) 92 [(0, .ref 84), (1, .ref A.1), (2, .ref A.2.1), (3, .ref A.2.2), (4, .ref r49), (5, .int k9)] [] _ _
      refine qq_iinc (v := k9 + 1) (loc' := [(0, .ref 84), (1, .ref A.1), (2, .ref A.2.1), (3, .ref A.2.2), (4, .ref r49), (5, .int (k9 + 1))]) dX7_sort_92 5 rfl rfl [1, 2, 3, 4, 5, 0] (Nat.le_of_ble_eq_true rfl) rfl ?_
      refine qq_goto (tgt := 29) dX7_sort_95 (by decide) ?_
      have ze : lf_X7_sort_29 (fu + 1) k9 g49 S = lf_X7_sort_29 fu (k9 + 1) ((lf_X7_sort_39 k9 9 (0 : Int32) g49 S).2) S := by
        rw [lf_X7_sort_29, if_neg zc1]
      rw [ze] at hk
      refine qq_less (bc' := 54 * fu + bc) (bs' := 594 * fu + bs) (by omega) (by omega) ?_
      exact lqih (k9 + 1) ((lf_X7_sort_39 k9 9 (0 : Int32) g49 S).2) hp1 hS1 fr1 hr_v4_1 hl_v4_1 (qm_pos zp (by assumption)) (qm_up (by assumption) zh) bc bs hk
theorem so_39 (k9 : Int32) (hk : vp_in k9 8) (S : sM) : ∀ (fu : Nat) (n9 : Int32) (f : qR), 0 ≤ n9.toInt → n9.toInt ≤ 8 → 0 ≤ (f k9.toNatClampNeg).toInt → (f k9.toNatClampNeg).toInt ≤ n9.toInt - (if k9.toInt < n9.toInt then 1 else 0) → vp_in ((lf_X7_sort_39 k9 fu n9 f S).2 k9.toNatClampNeg) 8 ∧ ∀ j, j ≠ k9.toNatClampNeg → (lf_X7_sort_39 k9 fu n9 f S).2 j = f j := by
  intro fu
  have hk2 := vp_in_iff.mp hk
  induction fu with
  | zero =>
    intro n9 f h0 h8 h1 h2
    refine ⟨?_, fun j _ => rfl⟩
    show vp_in (f k9.toNatClampNeg) 8
    rw [vp_in_iff]
    split at h2 <;> omega
  | succ fu ih =>
    intro n9 f h0 h8 h1 h2
    have e8 : (8 : Int32).toInt = 8 := rfl
    have e1 : (1 : Int32).toInt = 1 := rfl
    have ei : ¬ 8 ≤ n9 → (n9 + 1).toInt = n9.toInt + 1 := fun c => qm_inc c
    have us : ∀ x : Int32, upd f k9.toNatClampNeg x k9.toNatClampNeg = x := fun x => upd_same f _ x
    have step : ∀ c x : Int32, ¬ 8 ≤ n9 → (f k9.toNatClampNeg + c) = x → 0 ≤ x.toInt → x.toInt ≤ (n9.toInt + 1) - (if k9.toInt < n9.toInt + 1 then 1 else 0) → vp_in ((lf_X7_sort_39 k9 fu (n9 + 1) (upd f k9.toNatClampNeg (f k9.toNatClampNeg + c)) S).2 k9.toNatClampNeg) 8 ∧ ∀ j, j ≠ k9.toNatClampNeg → (lf_X7_sort_39 k9 fu (n9 + 1) (upd f k9.toNatClampNeg (f k9.toNatClampNeg + c)) S).2 j = f j := by
      intro c x hc hx x0 x1
      have hc2 := qm_lt hc
      obtain ⟨g1, g2⟩ := ih (n9 + 1) (upd f k9.toNatClampNeg (f k9.toNatClampNeg + c)) (by rw [ei hc]; omega) (by rw [ei hc]; omega) (by rw [us, hx]; exact x0) (by rw [us, hx, ei hc]; exact x1)
      exact ⟨g1, fun j hj => (g2 j hj).trans (upd_ne _ _ hj)⟩
    have z0 : f k9.toNatClampNeg + 0 = f k9.toNatClampNeg := Int32.add_zero _
    have ad : ¬ 8 ≤ n9 → (f k9.toNatClampNeg + 1).toInt = (f k9.toNatClampNeg).toInt + 1 := fun hc => by
      have hc2 := qm_lt hc
      rw [Int32.toInt_add, e1, Int.bmod_eq_of_le (by split at h2 <;> omega) (by split at h2 <;> omega)]
    rw [lf_X7_sort_39]
    by_cases hc : 8 ≤ n9
    · rw [if_pos hc]
      refine ⟨?_, fun j _ => rfl⟩
      show vp_in (f k9.toNatClampNeg) 8
      have := Int32.le_iff_toInt_le.mp hc
      rw [vp_in_iff]
      split at h2 <;> omega
    · rw [if_neg hc]
      have hc2 := qm_lt hc
      have zero := step 0 _ hc z0 h1 (by split at h2 <;> split <;> omega)
      by_cases hn : n9 = k9
      · subst hn
        rw [oo_self, if_neg (by decide), if_pos rfl, if_pos (Int32.le_refl _)]
        exact zero
      · have hn2 : n9.toInt ≠ k9.toInt := fun e => hn (Int32.toInt_inj.mp e)
        have one := step 1 _ hc rfl (by rw [ad hc]; omega) (by rw [ad hc]; split at h2 <;> split <;> omega)
        (repeat' split) <;> first | exact zero | exact one
theorem so_29 (S : sM) : ∀ (fu : Nat) (k9 : Int32) (f : qR), 0 ≤ k9.toInt → (∀ j, j < 8 → vp_in (f j) 8) → (∀ j : Nat, k9.toInt ≤ j → f j = 0) → ∀ j, j < 8 → vp_in ((lf_X7_sort_29 fu k9 f S).2 j) 8 := by
  intro fu
  induction fu with
  | zero => intro k9 f _ h _ j hj; exact h j hj
  | succ fu ih =>
    intro k9 f h0 h hz j hj
    rw [lf_X7_sort_29]
    by_cases hc : 8 ≤ k9
    · rw [if_pos hc]; exact h j hj
    · rw [if_neg hc]
      have hc2 := qm_lt hc
      have e8 : (8 : Int32).toInt = 8 := rfl
      have hk : vp_in k9 8 := by rw [vp_in_iff]; omega
      have ek : (k9.toNatClampNeg : Int) = k9.toInt := by
        show (k9.toInt.toNat : Int) = _
        omega
      have hf : f k9.toNatClampNeg = 0 := hz _ (by omega)
      have e0 : (0 : Int32).toInt = 0 := rfl
      obtain ⟨g1, g2⟩ := so_39 k9 hk S 9 0 f (by decide) (by decide) (by rw [hf]; decide) (by rw [hf, e0, if_neg (by omega)]; decide)
      refine ih (k9 + 1) _ (by rw [qm_inc hc]; omega) (fun i hi => ?_) (fun i hi => ?_) j hj
      · by_cases e : i = k9.toNatClampNeg
        · rw [e]; exact g1
        · rw [g2 i e]; exact h i hi
      · rw [qm_inc hc] at hi
        rw [g2 i (fun e => by rw [e] at hi; omega)]
        exact hz i (by omega)
theorem so_in (S : sM) : ∀ j, j < 8 → vp_in ((lf_X7_sort_29 9 0 (fun _ => 0) S).2 j) 8 := so_29 S 9 0 _ (by decide) (fun _ _ => vp_d (by decide)) (fun _ _ => rfl)

def lf_X7_sort_125  (g19 : (Nat → Int32)) (g29 : (Nat → Int32)) (g39 : (Nat → Int32)) (g49 : (Nat → Int32)) : Nat → Int32 → sM → Int32 × sM
  | 0, k9, S => (k9, S)
  | fu + 1, k9, S => if 8 ≤ k9 then (k9, S) else lf_X7_sort_125 g19 g29 g39 g49 fu (k9 + 1) (upd S.1 (g49 k9.toNatClampNeg).toNatClampNeg (g19 k9.toNatClampNeg), upd S.2.1 (g49 k9.toNatClampNeg).toNatClampNeg (g29 k9.toNatClampNeg), upd S.2.2.1 (g49 k9.toNatClampNeg).toNatClampNeg (vp_nar .boolean (g39 k9.toNatClampNeg)), S.2.2.2.1, S.2.2.2.2.1, S.2.2.2.2.2.1, S.2.2.2.2.2.2)
set_option maxRecDepth 4000 in
theorem lq_X7_sort_125  (A : qA) (r19 : Nat) (g19 : (Nat → Int32)) (r29 : Nat) (g29 : (Nat → Int32)) (r39 : Nat) (g39 : (Nat → Int32)) (r49 : Nat) (g49 : (Nat → Int32)) (zl1 : lo3 A r19) (zl2 : lo3 A r29) (zl3 : lo3 A r39) (zl4 : lo3 A r49) (zpl : ∀ j : Nat, j < 8 → vp_in (g49 j) 8) {P : Option Value → qq_H → Prop} {PX : String → qq_H → Prop} : ∀ (fu : Nat) (k9 : Int32) (hp : qq_H) (S : sM), ms_M A S hp → hp.2 r19 = .inl (0, 8, .inl g19) → r19 < hp.1 → hp.2 r29 = .inl (0, 8, .inl g29) → r29 < hp.1 → hp.2 r39 = .inl (2, 8, .inl g39) → r39 < hp.1 → hp.2 r49 = .inl (0, 8, .inl g49) → r49 < hp.1 → ¬ k9 < 0 → ((8 : Int32).toInt - k9.toInt).toNat < fu → ∀ (bc bs : Nat), (∀ hp' : qq_H, ms_M A ((lf_X7_sort_125 g19 g29 g39 g49 fu k9 S).2) hp' → fr A hp hp' → qq_Go mX7_sort hp' bc bs 180 [(0, .ref 84), (1, .ref r19), (2, .ref r29), (3, .ref r39), (4, .ref r49)] [] P PX) → qq_Go mX7_sort hp (0 * fu + bc) (0 * fu + bs) 125 [(0, .ref 84), (1, .ref r19), (2, .ref r29), (3, .ref r39), (4, .ref r49), (5, .int k9)] [] P PX := by
  intro fu
  induction fu with
  | zero => intro k9 hp S hS hr1 hl1 hr2 hl2 hr3 hl3 hr4 hl4 zp zz; exact absurd zz (Nat.not_lt_zero _)
  | succ fu lqih =>
    intro k9 hp S hS hr1 hl1 hr2 hl2 hr3 hl3 hr4 hl4 zp zh bc bs hk
    refine qq_iload dX7_sort_125 5 rfl ?_
    refine qq_bipush (v := 8) dX7_sort_127 (by decide) ?_
    refine qq_icmp_ge (tgt := 180) dX7_sort_129 (by decide) (fun zc1 => ?_) (fun zc1 => ?_)
    · have ze : lf_X7_sort_125 g19 g29 g39 g49 (fu + 1) k9 S = (k9, S) := by
        rw [lf_X7_sort_125, if_pos zc1]
      rw [ze] at hk
      refine qq_loc [0, 1, 2, 3, 4] rfl ?_
      refine qq_less (bc' := bc) (bs' := bs) (by omega) (by omega) ?_
      exact hk hp hS (fr_r _ _)
    · refine qq_aload_n dX7_sort_132 rfl 0 rfl ?_
      refine mx_get hS dX7_sort_133 4 (by decide) rfl kl_X7_28 ?_
      refine qq_aload dX7_sort_136 4 rfl ?_
      refine qq_iload dX7_sort_138 5 rfl ?_
      refine qq_iald dX7_sort_140 hr4 (qm_in8 zp zc1) ?_
      refine qq_aload_n dX7_sort_141 rfl 1 rfl ?_
      refine qq_iload dX7_sort_142 5 rfl ?_
      refine qq_iald dX7_sort_144 hr1 (qm_in8 zp zc1) ?_
      refine mx_st1 hS dX7_sort_145 (zpl _ (vp_lt (qm_in8 zp (by assumption)))) (fun hp1 hS1 fr1 _ _ => ?_)
      replace hS1 : ms_M A (upd S.1 (g49 k9.toNatClampNeg).toNatClampNeg (g19 k9.toNatClampNeg), S.2.1, S.2.2.1, S.2.2.2.1, S.2.2.2.2.1, S.2.2.2.2.2.1, S.2.2.2.2.2.2) hp1 := hS1
      have hr_1 := (fr_lo fr1 hl1 zl1 hr1)
      have hl_1 := fr_l fr1 hl1
      have hr_2 := (fr_lo fr1 hl2 zl2 hr2)
      have hl_2 := fr_l fr1 hl2
      have hr_3 := (fr_lo fr1 hl3 zl3 hr3)
      have hl_3 := fr_l fr1 hl3
      have hr_4 := (fr_lo fr1 hl4 zl4 hr4)
      have hl_4 := fr_l fr1 hl4
      refine qq_aload_n dX7_sort_146 rfl 0 rfl ?_
      refine mx_get hS1 dX7_sort_147 5 (by decide) rfl kl_X7_31 ?_
      refine qq_aload dX7_sort_150 4 rfl ?_
      refine qq_iload dX7_sort_152 5 rfl ?_
      refine qq_iald dX7_sort_154 hr_4 (qm_in8 zp zc1) ?_
      refine qq_aload_n dX7_sort_155 rfl 2 rfl ?_
      refine qq_iload dX7_sort_156 5 rfl ?_
      refine qq_iald dX7_sort_158 hr_2 (qm_in8 zp zc1) ?_
      refine mx_st2 hS1 dX7_sort_159 (zpl _ (vp_lt (qm_in8 zp (by assumption)))) (fun hp2 hS2 fr2 _ _ => ?_)
      replace hS2 : ms_M A (upd S.1 (g49 k9.toNatClampNeg).toNatClampNeg (g19 k9.toNatClampNeg), upd S.2.1 (g49 k9.toNatClampNeg).toNatClampNeg (g29 k9.toNatClampNeg), S.2.2.1, S.2.2.2.1, S.2.2.2.2.1, S.2.2.2.2.2.1, S.2.2.2.2.2.2) hp2 := hS2
      have hr_5 := (fr_lo fr2 hl_1 zl1 hr_1)
      have hl_5 := fr_l fr2 hl_1
      have hr_6 := (fr_lo fr2 hl_2 zl2 hr_2)
      have hl_6 := fr_l fr2 hl_2
      have hr_7 := (fr_lo fr2 hl_3 zl3 hr_3)
      have hl_7 := fr_l fr2 hl_3
      have hr_8 := (fr_lo fr2 hl_4 zl4 hr_4)
      have hl_8 := fr_l fr2 hl_4
      refine qq_aload_n dX7_sort_160 rfl 0 rfl ?_
      refine mx_get hS2 dX7_sort_161 6 (by decide) rfl kl_X7_34 ?_
      refine qq_aload dX7_sort_164 4 rfl ?_
      refine qq_iload dX7_sort_166 5 rfl ?_
      refine qq_iald dX7_sort_168 hr_8 (qm_in8 zp zc1) ?_
      refine qq_aload_n dX7_sort_169 rfl 3 rfl ?_
      refine qq_iload dX7_sort_170 5 rfl ?_
      refine qq_zald dX7_sort_172 hr_7 (qm_in8 zp zc1) ?_
      refine mx_st3 hS2 dX7_sort_173 (zpl _ (vp_lt (qm_in8 zp (by assumption)))) (fun hp3 hS3 fr3 _ _ => ?_)
      replace hS3 : ms_M A (upd S.1 (g49 k9.toNatClampNeg).toNatClampNeg (g19 k9.toNatClampNeg), upd S.2.1 (g49 k9.toNatClampNeg).toNatClampNeg (g29 k9.toNatClampNeg), upd S.2.2.1 (g49 k9.toNatClampNeg).toNatClampNeg (vp_nar .boolean (g39 k9.toNatClampNeg)), S.2.2.2.1, S.2.2.2.2.1, S.2.2.2.2.2.1, S.2.2.2.2.2.2) hp3 := hS3
      have hr_9 := (fr_lo fr3 hl_5 zl1 hr_5)
      have hl_9 := fr_l fr3 hl_5
      have hr_10 := (fr_lo fr3 hl_6 zl2 hr_6)
      have hl_10 := fr_l fr3 hl_6
      have hr_11 := (fr_lo fr3 hl_7 zl3 hr_7)
      have hl_11 := fr_l fr3 hl_7
      have hr_12 := (fr_lo fr3 hl_8 zl4 hr_8)
      have hl_12 := fr_l fr3 hl_8
      refine qq_iinc (v := k9 + 1) (loc' := [(0, .ref 84), (1, .ref r19), (2, .ref r29), (3, .ref r39), (4, .ref r49), (5, .int (k9 + 1))]) dX7_sort_174 5 rfl rfl [1, 2, 3, 4, 5, 0] (Nat.le_of_ble_eq_true rfl) rfl ?_
      refine qq_goto (tgt := 125) dX7_sort_177 (by decide) ?_
      have ze : lf_X7_sort_125 g19 g29 g39 g49 (fu + 1) k9 S = lf_X7_sort_125 g19 g29 g39 g49 fu (k9 + 1) (upd S.1 (g49 k9.toNatClampNeg).toNatClampNeg (g19 k9.toNatClampNeg), upd S.2.1 (g49 k9.toNatClampNeg).toNatClampNeg (g29 k9.toNatClampNeg), upd S.2.2.1 (g49 k9.toNatClampNeg).toNatClampNeg (vp_nar .boolean (g39 k9.toNatClampNeg)), S.2.2.2.1, S.2.2.2.2.1, S.2.2.2.2.2.1, S.2.2.2.2.2.2) := by
        rw [lf_X7_sort_125, if_neg zc1]
      rw [ze] at hk
      refine qq_less (bc' := 0 * fu + bc) (bs' := 0 * fu + bs) (by omega) (by omega) ?_
      exact lqih (k9 + 1) hp3 (upd S.1 (g49 k9.toNatClampNeg).toNatClampNeg (g19 k9.toNatClampNeg), upd S.2.1 (g49 k9.toNatClampNeg).toNatClampNeg (g29 k9.toNatClampNeg), upd S.2.2.1 (g49 k9.toNatClampNeg).toNatClampNeg (vp_nar .boolean (g39 k9.toNatClampNeg)), S.2.2.2.1, S.2.2.2.2.1, S.2.2.2.2.2.1, S.2.2.2.2.2.2) hS3 hr_9 hl_9 hr_10 hl_10 hr_11 hl_11 hr_12 hl_12 (qm_pos zp (by assumption)) (qm_up (by assumption) zh) bc bs (fun hq h1 h2 => hk hq h1 (fr_t (fr_t (fr_t fr1 fr2) fr3) h2))
def r_X7_sort   (S : sM) : Int32 × sM := (r_X7_others S.1 S.2.1 S.2.2.1 (((lf_X7_sort_125 S.1 S.2.1 S.2.2.1 ((lf_X7_sort_29 9 (0 : Int32) (fun _ => 0) (S.1, S.2.1, S.2.2.1, S.2.2.2.1, S.2.2.2.2.1, S.2.2.2.2.2.1, 0)).2) 9 (0 : Int32) ((fun _ => 0), (fun _ => 0), (fun _ => 0), S.2.2.2.1, S.2.2.2.2.1, S.2.2.2.2.2.1, 0)).2).1, ((lf_X7_sort_125 S.1 S.2.1 S.2.2.1 ((lf_X7_sort_29 9 (0 : Int32) (fun _ => 0) (S.1, S.2.1, S.2.2.1, S.2.2.2.1, S.2.2.2.2.1, S.2.2.2.2.2.1, 0)).2) 9 (0 : Int32) ((fun _ => 0), (fun _ => 0), (fun _ => 0), S.2.2.2.1, S.2.2.2.2.1, S.2.2.2.2.2.1, 0)).2).2.1, ((lf_X7_sort_125 S.1 S.2.1 S.2.2.1 ((lf_X7_sort_29 9 (0 : Int32) (fun _ => 0) (S.1, S.2.1, S.2.2.1, S.2.2.2.1, S.2.2.2.2.1, S.2.2.2.2.2.1, 0)).2) 9 (0 : Int32) ((fun _ => 0), (fun _ => 0), (fun _ => 0), S.2.2.2.1, S.2.2.2.2.1, S.2.2.2.2.2.1, 0)).2).2.2.1, (((lf_X7_sort_125 S.1 S.2.1 S.2.2.1 ((lf_X7_sort_29 9 (0 : Int32) (fun _ => 0) (S.1, S.2.1, S.2.2.1, S.2.2.2.1, S.2.2.2.2.1, S.2.2.2.2.2.1, 0)).2) 9 (0 : Int32) ((fun _ => 0), (fun _ => 0), (fun _ => 0), S.2.2.2.1, S.2.2.2.2.1, S.2.2.2.2.2.1, 0)).2).2.2.2.1) + 1, ((lf_X7_sort_125 S.1 S.2.1 S.2.2.1 ((lf_X7_sort_29 9 (0 : Int32) (fun _ => 0) (S.1, S.2.1, S.2.2.1, S.2.2.2.1, S.2.2.2.2.1, S.2.2.2.2.2.1, 0)).2) 9 (0 : Int32) ((fun _ => 0), (fun _ => 0), (fun _ => 0), S.2.2.2.1, S.2.2.2.2.1, S.2.2.2.2.2.1, 0)).2).2.2.2.2.1, ((lf_X7_sort_125 S.1 S.2.1 S.2.2.1 ((lf_X7_sort_29 9 (0 : Int32) (fun _ => 0) (S.1, S.2.1, S.2.2.1, S.2.2.2.1, S.2.2.2.2.1, S.2.2.2.2.2.1, 0)).2) 9 (0 : Int32) ((fun _ => 0), (fun _ => 0), (fun _ => 0), S.2.2.2.1, S.2.2.2.2.1, S.2.2.2.2.2.1, 0)).2).2.2.2.2.2.1, ((lf_X7_sort_125 S.1 S.2.1 S.2.2.1 ((lf_X7_sort_29 9 (0 : Int32) (fun _ => 0) (S.1, S.2.1, S.2.2.1, S.2.2.2.1, S.2.2.2.2.1, S.2.2.2.2.2.1, 0)).2) 9 (0 : Int32) ((fun _ => 0), (fun _ => 0), (fun _ => 0), S.2.2.2.1, S.2.2.2.2.1, S.2.2.2.2.2.1, 0)).2).2.2.2.2.2.2), (((lf_X7_sort_125 S.1 S.2.1 S.2.2.1 ((lf_X7_sort_29 9 (0 : Int32) (fun _ => 0) (S.1, S.2.1, S.2.2.1, S.2.2.2.1, S.2.2.2.2.1, S.2.2.2.2.2.1, 0)).2) 9 (0 : Int32) ((fun _ => 0), (fun _ => 0), (fun _ => 0), S.2.2.2.1, S.2.2.2.2.1, S.2.2.2.2.2.1, 0)).2).1, ((lf_X7_sort_125 S.1 S.2.1 S.2.2.1 ((lf_X7_sort_29 9 (0 : Int32) (fun _ => 0) (S.1, S.2.1, S.2.2.1, S.2.2.2.1, S.2.2.2.2.1, S.2.2.2.2.2.1, 0)).2) 9 (0 : Int32) ((fun _ => 0), (fun _ => 0), (fun _ => 0), S.2.2.2.1, S.2.2.2.2.1, S.2.2.2.2.2.1, 0)).2).2.1, ((lf_X7_sort_125 S.1 S.2.1 S.2.2.1 ((lf_X7_sort_29 9 (0 : Int32) (fun _ => 0) (S.1, S.2.1, S.2.2.1, S.2.2.2.1, S.2.2.2.2.1, S.2.2.2.2.2.1, 0)).2) 9 (0 : Int32) ((fun _ => 0), (fun _ => 0), (fun _ => 0), S.2.2.2.1, S.2.2.2.2.1, S.2.2.2.2.2.1, 0)).2).2.2.1, (((lf_X7_sort_125 S.1 S.2.1 S.2.2.1 ((lf_X7_sort_29 9 (0 : Int32) (fun _ => 0) (S.1, S.2.1, S.2.2.1, S.2.2.2.1, S.2.2.2.2.1, S.2.2.2.2.2.1, 0)).2) 9 (0 : Int32) ((fun _ => 0), (fun _ => 0), (fun _ => 0), S.2.2.2.1, S.2.2.2.2.1, S.2.2.2.2.2.1, 0)).2).2.2.2.1) + 1, ((lf_X7_sort_125 S.1 S.2.1 S.2.2.1 ((lf_X7_sort_29 9 (0 : Int32) (fun _ => 0) (S.1, S.2.1, S.2.2.1, S.2.2.2.1, S.2.2.2.2.1, S.2.2.2.2.2.1, 0)).2) 9 (0 : Int32) ((fun _ => 0), (fun _ => 0), (fun _ => 0), S.2.2.2.1, S.2.2.2.2.1, S.2.2.2.2.2.1, 0)).2).2.2.2.2.1, ((lf_X7_sort_125 S.1 S.2.1 S.2.2.1 ((lf_X7_sort_29 9 (0 : Int32) (fun _ => 0) (S.1, S.2.1, S.2.2.1, S.2.2.2.1, S.2.2.2.2.1, S.2.2.2.2.2.1, 0)).2) 9 (0 : Int32) ((fun _ => 0), (fun _ => 0), (fun _ => 0), S.2.2.2.1, S.2.2.2.2.1, S.2.2.2.2.2.1, 0)).2).2.2.2.2.2.1, ((lf_X7_sort_125 S.1 S.2.1 S.2.2.1 ((lf_X7_sort_29 9 (0 : Int32) (fun _ => 0) (S.1, S.2.1, S.2.2.1, S.2.2.2.1, S.2.2.2.2.1, S.2.2.2.2.2.1, 0)).2) 9 (0 : Int32) ((fun _ => 0), (fun _ => 0), (fun _ => 0), S.2.2.2.1, S.2.2.2.2.1, S.2.2.2.2.2.1, 0)).2).2.2.2.2.2.2))
set_option maxRecDepth 4000 in
theorem mt_X7_sort (hp : qq_H) (A : qA) (S : sM) (hS : ms_M A S hp)      (zI : IM S) : qq_Mt mX7_sort [.ref 84] hp 600 6600 (fun v hp' => v = some (.int ((r_X7_sort S).1)) ∧ ∃ A9 : qA, ms_M A9 ((r_X7_sort S).2) hp' ∧ fr A hp hp') (fun _ _ => False) := by
  refine qq_met pn_X7 (Nat.le_of_ble_eq_true rfl) (Nat.le_of_ble_eq_true rfl) kc_X7_sort ?_
  show qq_Go _ hp 600 6600 0 [(0, .ref 84)] [] _ _
  refine qq_aload_n dX7_sort_0 rfl 0 rfl ?_
  refine qq_iconst (v := 0) dX7_sort_1 (by decide) ?_
  refine mx_put10 hS dX7_sort_2 kl_X7_50 (fun hp1 hS1 fq1 => ?_)
  have fr1 := fq1 A
  replace hS1 : ms_M A (S.1, S.2.1, S.2.2.1, S.2.2.2.1, S.2.2.2.2.1, S.2.2.2.2.2.1, 0) hp1 := hS1
  refine qq_aload_n dX7_sort_5 rfl 0 rfl ?_
  refine mx_get hS1 dX7_sort_6 4 (by decide) rfl kl_X7_28 ?_
  refine qq_astore_n (loc' := [(0, .ref 84), (1, .ref A.1)]) dX7_sort_9 rfl [1, 0] (Nat.le_of_ble_eq_true rfl) rfl ?_
  refine qq_aload_n dX7_sort_10 rfl 0 rfl ?_
  refine mx_get hS1 dX7_sort_11 5 (by decide) rfl kl_X7_31 ?_
  refine qq_astore_n (loc' := [(0, .ref 84), (1, .ref A.1), (2, .ref A.2.1)]) dX7_sort_14 rfl [1, 2, 0] (Nat.le_of_ble_eq_true rfl) rfl ?_
  refine qq_aload_n dX7_sort_15 rfl 0 rfl ?_
  refine mx_get hS1 dX7_sort_16 6 (by decide) rfl kl_X7_34 ?_
  refine qq_astore_n (loc' := [(0, .ref 84), (1, .ref A.1), (2, .ref A.2.1), (3, .ref A.2.2)]) dX7_sort_19 rfl [1, 2, 3, 0] (Nat.le_of_ble_eq_true rfl) rfl ?_
  refine qq_bipush (v := 8) dX7_sort_20 (by decide) ?_
  refine qq_less (bc' := 599 + 1) (bs' := 6592 + 8) (by omega) (by omega) ?_
  refine qq_newI (N' := 8) (ms := 8) dX7_sort_22 (by decide) rfl (Nat.le_of_ble_eq_true rfl) (Nat.le_refl _) ?_ ka_int
  obtain ⟨hp2, he2⟩ : ∃ h, qq_nw hp1 (.inl (0, 8, .inl (fun _ => 0))) = h := ⟨_, rfl⟩
  obtain ⟨hS2, fr2, hr_n2, hl_n2⟩ := ms_n hS1 he2
  refine qq_hp (hp2 := hp2) he2 ?_
  show qq_Go _ hp2 (599) (6592) 24 [(0, .ref 84), (1, .ref A.1), (2, .ref A.2.1), (3, .ref A.2.2)] [.ref hp1.1] _ _
  have zhi : ms_A A hp1.1 := by show ms_A A hp1.1; exact hS1.2.2.2.2.2.2.1
  have z80 : 80 ≤ hp1.1 := ms_80 hS1
  have zfr : hp.1 ≤ hp1.1 := fr1.1
  refine qq_astore (loc' := [(0, .ref 84), (1, .ref A.1), (2, .ref A.2.1), (3, .ref A.2.2), (4, .ref hp1.1)]) dX7_sort_24 [1, 2, 3, 4, 0] (Nat.le_of_ble_eq_true rfl) rfl ?_
  refine qq_iconst (v := 0) dX7_sort_26 (by decide) ?_
  refine qq_istore (loc' := [(0, .ref 84), (1, .ref A.1), (2, .ref A.2.1), (3, .ref A.2.2), (4, .ref hp1.1), (5, .int 0)]) dX7_sort_27 [1, 2, 3, 4, 5, 0] (Nat.le_of_ble_eq_true rfl) rfl ?_
  refine qq_less (bc' := 113 + 486) (bs' := 1246 + 5346) (by omega) (by omega) ?_
  refine qq_less (bc' := 54 * 9 + (113)) (bs' := 594 * 9 + (1246)) (by omega) (by omega) ?_
  refine lq_X7_sort_29 A (S.1, S.2.1, S.2.2.1, S.2.2.2.1, S.2.2.2.2.1, S.2.2.2.2.2.1, 0) hp hp1.1 zI zhi z80 zfr 9 (0 : Int32) (fun _ => 0) hp2 hS2 (fr_t fr1 fr2) hr_n2 hl_n2 (by decide) (by decide) (113) (1246) (fun hp3 hS3 fr3 hr_v4_3 hl_v4_3 => ?_)
  show qq_Go _ hp3 (113) (1246) 98 [(0, .ref 84), (1, .ref A.1), (2, .ref A.2.1), (3, .ref A.2.2), (4, .ref hp1.1)] [] _ _
  refine qq_less (bc' := 110 + 3) (bs' := 1222 + 24) (by omega) (by omega) ?_
  refine mx_new3 (bc := 110) (bs := 1222) hS3 0 rfl dX7_sort_98 dX7_sort_99 dX7_sort_101 28 dX7_sort_103 dX7_sort_106 dX7_sort_107 dX7_sort_109 31 dX7_sort_111 dX7_sort_114 dX7_sort_115 dX7_sort_117 34 dX7_sort_119 kl_X7_28 kl_X7_31 kl_X7_34 ka_int ka_boolean (fun hp4 hS4 hz4 hk4 => ?_)
  obtain ⟨ba1, ba2, ba3, ba4⟩ := hS3.2.2.2.2.2.2.1
  have hn4 : hp.1 ≤ hp3.1 := fr3.1
  have frB : fr A hp hp4 := ⟨by have := hn4; omega, fun k hk d1 d2 d3 d4 d5 => (hk4 k (by omega) d1).trans (fr3.2 k hk d1 d2 d3 d4 d5)⟩
  have hn3 : hp.1 ≤ hp3.1 ∧ hp.1 ≤ hp3.1 + 1 ∧ hp.1 ≤ hp3.1 + 2 := ⟨hn4, by omega, by omega⟩
  have lo0 : lo3 (hp3.1, hp3.1 + 1, hp3.1 + 2) A.1 := ⟨by omega, ba1.2, by show _ < hp3.1 + 1; omega, by show _ < hp3.1 + 2; omega⟩
  have hr_o0 := (hk4 _ ba1.2 (by omega)).trans hS3.2.2.2.1
  have hl_o0 : A.1 < hp4.1 := by omega
  have lo1 : lo3 (hp3.1, hp3.1 + 1, hp3.1 + 2) A.2.1 := ⟨by omega, ba2.2, by show _ < hp3.1 + 1; omega, by show _ < hp3.1 + 2; omega⟩
  have hr_o1 := (hk4 _ ba2.2 (by omega)).trans hS3.2.2.2.2.1
  have hl_o1 : A.2.1 < hp4.1 := by omega
  have lo2 : lo3 (hp3.1, hp3.1 + 1, hp3.1 + 2) A.2.2 := ⟨by omega, ba3.2, by show _ < hp3.1 + 1; omega, by show _ < hp3.1 + 2; omega⟩
  have hr_o2 := (hk4 _ ba3.2 (by omega)).trans hS3.2.2.2.2.2.1
  have hl_o2 : A.2.2 < hp4.1 := by omega
  have loP : lo3 (hp3.1, hp3.1 + 1, hp3.1 + 2) hp1.1 := ⟨by have := zhi; obtain ⟨z1, _⟩ := this; omega, hl_v4_3, by show _ < hp3.1 + 1; omega, by show _ < hp3.1 + 2; omega⟩
  have hr_P := (hk4 _ hl_v4_3 (by have := loP.1; omega)).trans hr_v4_3
  have hl_P : hp1.1 < hp4.1 := by omega
  show qq_Go _ hp4 (110) (1222) 122 [(0, .ref 84), (1, .ref A.1), (2, .ref A.2.1), (3, .ref A.2.2), (4, .ref hp1.1)] [] _ _
  refine qq_iconst (v := 0) dX7_sort_122 (by decide) ?_
  refine qq_istore (loc' := [(0, .ref 84), (1, .ref A.1), (2, .ref A.2.1), (3, .ref A.2.2), (4, .ref hp1.1), (5, .int 0)]) dX7_sort_123 [1, 2, 3, 4, 5, 0] (Nat.le_of_ble_eq_true rfl) rfl ?_
  refine qq_less (bc' := 110 + 0) (bs' := 1222 + 0) (by omega) (by omega) ?_
  refine qq_less (bc' := 0 * 9 + (110)) (bs' := 0 * 9 + (1222)) (by omega) (by omega) ?_
  refine lq_X7_sort_125 (hp3.1, hp3.1 + 1, hp3.1 + 2) A.1 S.1 A.2.1 S.2.1 A.2.2 S.2.2.1 hp1.1 ((lf_X7_sort_29 9 (0 : Int32) (fun _ => 0) (S.1, S.2.1, S.2.2.1, S.2.2.2.1, S.2.2.2.2.1, S.2.2.2.2.2.1, 0)).2) lo0 lo1 lo2 loP (so_in _) 9 (0 : Int32) hp4 ((fun _ => 0), (fun _ => 0), (fun _ => 0), S.2.2.2.1, S.2.2.2.2.1, S.2.2.2.2.2.1, 0) hS4 hr_o0 hl_o0 hr_o1 hl_o1 hr_o2 hl_o2 hr_P hl_P (by decide) (by decide) (110) (1222) (fun hp5 hS5 fr5 => ?_)
  have hr_1 := (fr_lo fr5 hl_P loP hr_P)
  have hl_1 := fr_l fr5 hl_P
  have hr_2 := (fr_lo fr5 hl_o0 lo0 hr_o0)
  have hl_2 := fr_l fr5 hl_o0
  have hr_3 := (fr_lo fr5 hl_o1 lo1 hr_o1)
  have hl_3 := fr_l fr5 hl_o1
  have hr_4 := (fr_lo fr5 hl_o2 lo2 hr_o2)
  have hl_4 := fr_l fr5 hl_o2
  show qq_Go _ hp5 (110) (1222) 180 [(0, .ref 84), (1, .ref A.1), (2, .ref A.2.1), (3, .ref A.2.2), (4, .ref hp1.1)] [] _ _
  refine qq_aload_n dX7_sort_180 rfl 0 rfl ?_
  refine qq_dup dX7_sort_181 rfl ?_
  refine mx_get hS5 dX7_sort_182 7 (by decide) rfl kl_X7_117 ?_
  refine qq_iconst (v := 1) dX7_sort_185 (by decide) ?_
  refine qq_iadd dX7_sort_186 ?_
  refine mx_put7 hS5 dX7_sort_187 kl_X7_117 (fun hp6 hS6 fq6 => ?_)
  have fr6 := fq6 (hp3.1, hp3.1 + 1, hp3.1 + 2)
  replace hS6 : ms_M (hp3.1, hp3.1 + 1, hp3.1 + 2) (((lf_X7_sort_125 S.1 S.2.1 S.2.2.1 ((lf_X7_sort_29 9 (0 : Int32) (fun _ => 0) (S.1, S.2.1, S.2.2.1, S.2.2.2.1, S.2.2.2.2.1, S.2.2.2.2.2.1, 0)).2) 9 (0 : Int32) ((fun _ => 0), (fun _ => 0), (fun _ => 0), S.2.2.2.1, S.2.2.2.2.1, S.2.2.2.2.2.1, 0)).2).1, ((lf_X7_sort_125 S.1 S.2.1 S.2.2.1 ((lf_X7_sort_29 9 (0 : Int32) (fun _ => 0) (S.1, S.2.1, S.2.2.1, S.2.2.2.1, S.2.2.2.2.1, S.2.2.2.2.2.1, 0)).2) 9 (0 : Int32) ((fun _ => 0), (fun _ => 0), (fun _ => 0), S.2.2.2.1, S.2.2.2.2.1, S.2.2.2.2.2.1, 0)).2).2.1, ((lf_X7_sort_125 S.1 S.2.1 S.2.2.1 ((lf_X7_sort_29 9 (0 : Int32) (fun _ => 0) (S.1, S.2.1, S.2.2.1, S.2.2.2.1, S.2.2.2.2.1, S.2.2.2.2.2.1, 0)).2) 9 (0 : Int32) ((fun _ => 0), (fun _ => 0), (fun _ => 0), S.2.2.2.1, S.2.2.2.2.1, S.2.2.2.2.2.1, 0)).2).2.2.1, (((lf_X7_sort_125 S.1 S.2.1 S.2.2.1 ((lf_X7_sort_29 9 (0 : Int32) (fun _ => 0) (S.1, S.2.1, S.2.2.1, S.2.2.2.1, S.2.2.2.2.1, S.2.2.2.2.2.1, 0)).2) 9 (0 : Int32) ((fun _ => 0), (fun _ => 0), (fun _ => 0), S.2.2.2.1, S.2.2.2.2.1, S.2.2.2.2.2.1, 0)).2).2.2.2.1) + 1, ((lf_X7_sort_125 S.1 S.2.1 S.2.2.1 ((lf_X7_sort_29 9 (0 : Int32) (fun _ => 0) (S.1, S.2.1, S.2.2.1, S.2.2.2.1, S.2.2.2.2.1, S.2.2.2.2.2.1, 0)).2) 9 (0 : Int32) ((fun _ => 0), (fun _ => 0), (fun _ => 0), S.2.2.2.1, S.2.2.2.2.1, S.2.2.2.2.2.1, 0)).2).2.2.2.2.1, ((lf_X7_sort_125 S.1 S.2.1 S.2.2.1 ((lf_X7_sort_29 9 (0 : Int32) (fun _ => 0) (S.1, S.2.1, S.2.2.1, S.2.2.2.1, S.2.2.2.2.1, S.2.2.2.2.2.1, 0)).2) 9 (0 : Int32) ((fun _ => 0), (fun _ => 0), (fun _ => 0), S.2.2.2.1, S.2.2.2.2.1, S.2.2.2.2.2.1, 0)).2).2.2.2.2.2.1, ((lf_X7_sort_125 S.1 S.2.1 S.2.2.1 ((lf_X7_sort_29 9 (0 : Int32) (fun _ => 0) (S.1, S.2.1, S.2.2.1, S.2.2.2.1, S.2.2.2.2.1, S.2.2.2.2.2.1, 0)).2) 9 (0 : Int32) ((fun _ => 0), (fun _ => 0), (fun _ => 0), S.2.2.2.1, S.2.2.2.2.1, S.2.2.2.2.2.1, 0)).2).2.2.2.2.2.2) hp6 := hS6
  have hr_5 := (fr_lo fr6 hl_1 loP hr_1)
  have hl_5 := fr_l fr6 hl_1
  have hr_6 := (fr_lo fr6 hl_2 lo0 hr_2)
  have hl_6 := fr_l fr6 hl_2
  have hr_7 := (fr_lo fr6 hl_3 lo1 hr_3)
  have hl_7 := fr_l fr6 hl_3
  have hr_8 := (fr_lo fr6 hl_4 lo2 hr_4)
  have hl_8 := fr_l fr6 hl_4
  refine qq_aload_n dX7_sort_190 rfl 0 rfl ?_
  refine qq_aload_n dX7_sort_191 rfl 1 rfl ?_
  refine qq_aload_n dX7_sort_192 rfl 2 rfl ?_
  refine qq_aload_n dX7_sort_193 rfl 3 rfl ?_
  refine qq_less (bc' := 110 + 0) (bs' := 1222 + 0) (by omega) (by omega) ?_
  refine qq_callV (bc := 110) (bs := 1222) (mc := 0) (ms := 0) (o := 84) (ci := 4) (N := 11) (T := TX7) (as := [.ref A.1, .ref A.2.1, .ref A.2.2]) (rest := []) dX7_sort_194 hS6.2.2.1 (by decide) rfl (mt_X7_others hp6 (hp3.1, hp3.1 + 1, hp3.1 + 2) (((lf_X7_sort_125 S.1 S.2.1 S.2.2.1 ((lf_X7_sort_29 9 (0 : Int32) (fun _ => 0) (S.1, S.2.1, S.2.2.1, S.2.2.2.1, S.2.2.2.2.1, S.2.2.2.2.2.1, 0)).2) 9 (0 : Int32) ((fun _ => 0), (fun _ => 0), (fun _ => 0), S.2.2.2.1, S.2.2.2.2.1, S.2.2.2.2.2.1, 0)).2).1, ((lf_X7_sort_125 S.1 S.2.1 S.2.2.1 ((lf_X7_sort_29 9 (0 : Int32) (fun _ => 0) (S.1, S.2.1, S.2.2.1, S.2.2.2.1, S.2.2.2.2.1, S.2.2.2.2.2.1, 0)).2) 9 (0 : Int32) ((fun _ => 0), (fun _ => 0), (fun _ => 0), S.2.2.2.1, S.2.2.2.2.1, S.2.2.2.2.2.1, 0)).2).2.1, ((lf_X7_sort_125 S.1 S.2.1 S.2.2.1 ((lf_X7_sort_29 9 (0 : Int32) (fun _ => 0) (S.1, S.2.1, S.2.2.1, S.2.2.2.1, S.2.2.2.2.1, S.2.2.2.2.2.1, 0)).2) 9 (0 : Int32) ((fun _ => 0), (fun _ => 0), (fun _ => 0), S.2.2.2.1, S.2.2.2.2.1, S.2.2.2.2.2.1, 0)).2).2.2.1, (((lf_X7_sort_125 S.1 S.2.1 S.2.2.1 ((lf_X7_sort_29 9 (0 : Int32) (fun _ => 0) (S.1, S.2.1, S.2.2.1, S.2.2.2.1, S.2.2.2.2.1, S.2.2.2.2.2.1, 0)).2) 9 (0 : Int32) ((fun _ => 0), (fun _ => 0), (fun _ => 0), S.2.2.2.1, S.2.2.2.2.1, S.2.2.2.2.2.1, 0)).2).2.2.2.1) + 1, ((lf_X7_sort_125 S.1 S.2.1 S.2.2.1 ((lf_X7_sort_29 9 (0 : Int32) (fun _ => 0) (S.1, S.2.1, S.2.2.1, S.2.2.2.1, S.2.2.2.2.1, S.2.2.2.2.2.1, 0)).2) 9 (0 : Int32) ((fun _ => 0), (fun _ => 0), (fun _ => 0), S.2.2.2.1, S.2.2.2.2.1, S.2.2.2.2.2.1, 0)).2).2.2.2.2.1, ((lf_X7_sort_125 S.1 S.2.1 S.2.2.1 ((lf_X7_sort_29 9 (0 : Int32) (fun _ => 0) (S.1, S.2.1, S.2.2.1, S.2.2.2.1, S.2.2.2.2.1, S.2.2.2.2.2.1, 0)).2) 9 (0 : Int32) ((fun _ => 0), (fun _ => 0), (fun _ => 0), S.2.2.2.1, S.2.2.2.2.1, S.2.2.2.2.2.1, 0)).2).2.2.2.2.2.1, ((lf_X7_sort_125 S.1 S.2.1 S.2.2.1 ((lf_X7_sort_29 9 (0 : Int32) (fun _ => 0) (S.1, S.2.1, S.2.2.1, S.2.2.2.1, S.2.2.2.2.1, S.2.2.2.2.2.1, 0)).2) 9 (0 : Int32) ((fun _ => 0), (fun _ => 0), (fun _ => 0), S.2.2.2.1, S.2.2.2.2.1, S.2.2.2.2.2.1, 0)).2).2.2.2.2.2.2) hS6 A.1 A.2.1 A.2.2 S.1 S.2.1 S.2.2.1 hr_6 hr_7 hr_8 hl_6 hl_7 hl_8 ) rfl kl_X7_140 kn_X7_others ke_X7_others ki_X7 kc_X7_others kd_X7_others rfl (by decide) (by decide) (Nat.le_of_ble_eq_true rfl) (fun v hp' hv _ _ => ?_) (fun E hp' zx _ _ => zx.elim)
  obtain ⟨rfl, rfl⟩ := hv
  show qq_Go _ hp6 (110) (1222) 197 [(0, .ref 84), (1, .ref A.1), (2, .ref A.2.1), (3, .ref A.2.2), (4, .ref hp1.1)] [.int (r_X7_others S.1 S.2.1 S.2.2.1 (((lf_X7_sort_125 S.1 S.2.1 S.2.2.1 ((lf_X7_sort_29 9 (0 : Int32) (fun _ => 0) (S.1, S.2.1, S.2.2.1, S.2.2.2.1, S.2.2.2.2.1, S.2.2.2.2.2.1, 0)).2) 9 (0 : Int32) ((fun _ => 0), (fun _ => 0), (fun _ => 0), S.2.2.2.1, S.2.2.2.2.1, S.2.2.2.2.2.1, 0)).2).1, ((lf_X7_sort_125 S.1 S.2.1 S.2.2.1 ((lf_X7_sort_29 9 (0 : Int32) (fun _ => 0) (S.1, S.2.1, S.2.2.1, S.2.2.2.1, S.2.2.2.2.1, S.2.2.2.2.2.1, 0)).2) 9 (0 : Int32) ((fun _ => 0), (fun _ => 0), (fun _ => 0), S.2.2.2.1, S.2.2.2.2.1, S.2.2.2.2.2.1, 0)).2).2.1, ((lf_X7_sort_125 S.1 S.2.1 S.2.2.1 ((lf_X7_sort_29 9 (0 : Int32) (fun _ => 0) (S.1, S.2.1, S.2.2.1, S.2.2.2.1, S.2.2.2.2.1, S.2.2.2.2.2.1, 0)).2) 9 (0 : Int32) ((fun _ => 0), (fun _ => 0), (fun _ => 0), S.2.2.2.1, S.2.2.2.2.1, S.2.2.2.2.2.1, 0)).2).2.2.1, (((lf_X7_sort_125 S.1 S.2.1 S.2.2.1 ((lf_X7_sort_29 9 (0 : Int32) (fun _ => 0) (S.1, S.2.1, S.2.2.1, S.2.2.2.1, S.2.2.2.2.1, S.2.2.2.2.2.1, 0)).2) 9 (0 : Int32) ((fun _ => 0), (fun _ => 0), (fun _ => 0), S.2.2.2.1, S.2.2.2.2.1, S.2.2.2.2.2.1, 0)).2).2.2.2.1) + 1, ((lf_X7_sort_125 S.1 S.2.1 S.2.2.1 ((lf_X7_sort_29 9 (0 : Int32) (fun _ => 0) (S.1, S.2.1, S.2.2.1, S.2.2.2.1, S.2.2.2.2.1, S.2.2.2.2.2.1, 0)).2) 9 (0 : Int32) ((fun _ => 0), (fun _ => 0), (fun _ => 0), S.2.2.2.1, S.2.2.2.2.1, S.2.2.2.2.2.1, 0)).2).2.2.2.2.1, ((lf_X7_sort_125 S.1 S.2.1 S.2.2.1 ((lf_X7_sort_29 9 (0 : Int32) (fun _ => 0) (S.1, S.2.1, S.2.2.1, S.2.2.2.1, S.2.2.2.2.1, S.2.2.2.2.2.1, 0)).2) 9 (0 : Int32) ((fun _ => 0), (fun _ => 0), (fun _ => 0), S.2.2.2.1, S.2.2.2.2.1, S.2.2.2.2.2.1, 0)).2).2.2.2.2.2.1, ((lf_X7_sort_125 S.1 S.2.1 S.2.2.1 ((lf_X7_sort_29 9 (0 : Int32) (fun _ => 0) (S.1, S.2.1, S.2.2.1, S.2.2.2.1, S.2.2.2.2.1, S.2.2.2.2.2.1, 0)).2) 9 (0 : Int32) ((fun _ => 0), (fun _ => 0), (fun _ => 0), S.2.2.2.1, S.2.2.2.2.1, S.2.2.2.2.2.1, 0)).2).2.2.2.2.2.2))] _ _
  have ze : r_X7_sort S = (r_X7_others S.1 S.2.1 S.2.2.1 (((lf_X7_sort_125 S.1 S.2.1 S.2.2.1 ((lf_X7_sort_29 9 (0 : Int32) (fun _ => 0) (S.1, S.2.1, S.2.2.1, S.2.2.2.1, S.2.2.2.2.1, S.2.2.2.2.2.1, 0)).2) 9 (0 : Int32) ((fun _ => 0), (fun _ => 0), (fun _ => 0), S.2.2.2.1, S.2.2.2.2.1, S.2.2.2.2.2.1, 0)).2).1, ((lf_X7_sort_125 S.1 S.2.1 S.2.2.1 ((lf_X7_sort_29 9 (0 : Int32) (fun _ => 0) (S.1, S.2.1, S.2.2.1, S.2.2.2.1, S.2.2.2.2.1, S.2.2.2.2.2.1, 0)).2) 9 (0 : Int32) ((fun _ => 0), (fun _ => 0), (fun _ => 0), S.2.2.2.1, S.2.2.2.2.1, S.2.2.2.2.2.1, 0)).2).2.1, ((lf_X7_sort_125 S.1 S.2.1 S.2.2.1 ((lf_X7_sort_29 9 (0 : Int32) (fun _ => 0) (S.1, S.2.1, S.2.2.1, S.2.2.2.1, S.2.2.2.2.1, S.2.2.2.2.2.1, 0)).2) 9 (0 : Int32) ((fun _ => 0), (fun _ => 0), (fun _ => 0), S.2.2.2.1, S.2.2.2.2.1, S.2.2.2.2.2.1, 0)).2).2.2.1, (((lf_X7_sort_125 S.1 S.2.1 S.2.2.1 ((lf_X7_sort_29 9 (0 : Int32) (fun _ => 0) (S.1, S.2.1, S.2.2.1, S.2.2.2.1, S.2.2.2.2.1, S.2.2.2.2.2.1, 0)).2) 9 (0 : Int32) ((fun _ => 0), (fun _ => 0), (fun _ => 0), S.2.2.2.1, S.2.2.2.2.1, S.2.2.2.2.2.1, 0)).2).2.2.2.1) + 1, ((lf_X7_sort_125 S.1 S.2.1 S.2.2.1 ((lf_X7_sort_29 9 (0 : Int32) (fun _ => 0) (S.1, S.2.1, S.2.2.1, S.2.2.2.1, S.2.2.2.2.1, S.2.2.2.2.2.1, 0)).2) 9 (0 : Int32) ((fun _ => 0), (fun _ => 0), (fun _ => 0), S.2.2.2.1, S.2.2.2.2.1, S.2.2.2.2.2.1, 0)).2).2.2.2.2.1, ((lf_X7_sort_125 S.1 S.2.1 S.2.2.1 ((lf_X7_sort_29 9 (0 : Int32) (fun _ => 0) (S.1, S.2.1, S.2.2.1, S.2.2.2.1, S.2.2.2.2.1, S.2.2.2.2.2.1, 0)).2) 9 (0 : Int32) ((fun _ => 0), (fun _ => 0), (fun _ => 0), S.2.2.2.1, S.2.2.2.2.1, S.2.2.2.2.2.1, 0)).2).2.2.2.2.2.1, ((lf_X7_sort_125 S.1 S.2.1 S.2.2.1 ((lf_X7_sort_29 9 (0 : Int32) (fun _ => 0) (S.1, S.2.1, S.2.2.1, S.2.2.2.1, S.2.2.2.2.1, S.2.2.2.2.2.1, 0)).2) 9 (0 : Int32) ((fun _ => 0), (fun _ => 0), (fun _ => 0), S.2.2.2.1, S.2.2.2.2.1, S.2.2.2.2.2.1, 0)).2).2.2.2.2.2.2), (((lf_X7_sort_125 S.1 S.2.1 S.2.2.1 ((lf_X7_sort_29 9 (0 : Int32) (fun _ => 0) (S.1, S.2.1, S.2.2.1, S.2.2.2.1, S.2.2.2.2.1, S.2.2.2.2.2.1, 0)).2) 9 (0 : Int32) ((fun _ => 0), (fun _ => 0), (fun _ => 0), S.2.2.2.1, S.2.2.2.2.1, S.2.2.2.2.2.1, 0)).2).1, ((lf_X7_sort_125 S.1 S.2.1 S.2.2.1 ((lf_X7_sort_29 9 (0 : Int32) (fun _ => 0) (S.1, S.2.1, S.2.2.1, S.2.2.2.1, S.2.2.2.2.1, S.2.2.2.2.2.1, 0)).2) 9 (0 : Int32) ((fun _ => 0), (fun _ => 0), (fun _ => 0), S.2.2.2.1, S.2.2.2.2.1, S.2.2.2.2.2.1, 0)).2).2.1, ((lf_X7_sort_125 S.1 S.2.1 S.2.2.1 ((lf_X7_sort_29 9 (0 : Int32) (fun _ => 0) (S.1, S.2.1, S.2.2.1, S.2.2.2.1, S.2.2.2.2.1, S.2.2.2.2.2.1, 0)).2) 9 (0 : Int32) ((fun _ => 0), (fun _ => 0), (fun _ => 0), S.2.2.2.1, S.2.2.2.2.1, S.2.2.2.2.2.1, 0)).2).2.2.1, (((lf_X7_sort_125 S.1 S.2.1 S.2.2.1 ((lf_X7_sort_29 9 (0 : Int32) (fun _ => 0) (S.1, S.2.1, S.2.2.1, S.2.2.2.1, S.2.2.2.2.1, S.2.2.2.2.2.1, 0)).2) 9 (0 : Int32) ((fun _ => 0), (fun _ => 0), (fun _ => 0), S.2.2.2.1, S.2.2.2.2.1, S.2.2.2.2.2.1, 0)).2).2.2.2.1) + 1, ((lf_X7_sort_125 S.1 S.2.1 S.2.2.1 ((lf_X7_sort_29 9 (0 : Int32) (fun _ => 0) (S.1, S.2.1, S.2.2.1, S.2.2.2.1, S.2.2.2.2.1, S.2.2.2.2.2.1, 0)).2) 9 (0 : Int32) ((fun _ => 0), (fun _ => 0), (fun _ => 0), S.2.2.2.1, S.2.2.2.2.1, S.2.2.2.2.2.1, 0)).2).2.2.2.2.1, ((lf_X7_sort_125 S.1 S.2.1 S.2.2.1 ((lf_X7_sort_29 9 (0 : Int32) (fun _ => 0) (S.1, S.2.1, S.2.2.1, S.2.2.2.1, S.2.2.2.2.1, S.2.2.2.2.2.1, 0)).2) 9 (0 : Int32) ((fun _ => 0), (fun _ => 0), (fun _ => 0), S.2.2.2.1, S.2.2.2.2.1, S.2.2.2.2.2.1, 0)).2).2.2.2.2.2.1, ((lf_X7_sort_125 S.1 S.2.1 S.2.2.1 ((lf_X7_sort_29 9 (0 : Int32) (fun _ => 0) (S.1, S.2.1, S.2.2.1, S.2.2.2.1, S.2.2.2.2.1, S.2.2.2.2.2.1, 0)).2) 9 (0 : Int32) ((fun _ => 0), (fun _ => 0), (fun _ => 0), S.2.2.2.1, S.2.2.2.2.1, S.2.2.2.2.2.1, 0)).2).2.2.2.2.2.2)) := by
    rw [r_X7_sort]
  exact qq_iret dX7_sort_197 rfl rfl ⟨by rw [ze], _, by rw [ze]; exact hS6, (fr_f hn3 (fr_f hn3 frB fr5) fr6)⟩