def r_X7_ofEndless (how : Int32) (u9 : Int32)  (S : sM) : Option qR := if u9 = 0 then some (upd (upd (upd (fun _ => 0) (0 : Int32).toNatClampNeg (1 : Int32)) (1 : Int32).toNatClampNeg (0 : Int32)) (2 : Int32).toNatClampNeg (0 : Int32)) else if how = 1 then some (upd (upd (upd (fun _ => 0) (0 : Int32).toNatClampNeg (0 : Int32)) (1 : Int32).toNatClampNeg (0 : Int32)) (2 : Int32).toNatClampNeg (0 : Int32)) else if how = 2 then some (upd (upd (upd (fun _ => 0) (0 : Int32).toNatClampNeg (0 : Int32)) (1 : Int32).toNatClampNeg (-4 : Int32)) (2 : Int32).toNatClampNeg (0 : Int32)) else none
set_option maxRecDepth 4000 in
theorem mt_X7_ofEndless (hp : qq_H) (A : qA) (S : sM) (hS : ms_M A S hp) (how : Int32) (u9 : Int32)      : qq_Mt mX7_ofEndless [.int how, .int u9] hp 1 3 (fun v hp' => ms_M A S hp' ∧ fr A hp hp' ∧ ((v = some .null ∧ r_X7_ofEndless how u9 S = none) ∨ ∃ (r : Nat) (f : qR), v = some (.ref r) ∧ r_X7_ofEndless how u9 S = some f ∧ hp'.2 r = .inl (0, 3, .inl f) ∧ r < hp'.1)) (fun _ _ => False) := by
  refine qq_met pn_X7 (Nat.le_of_ble_eq_true rfl) (Nat.le_of_ble_eq_true rfl) kc_X7_ofEndless ?_
  show qq_Go _ hp 1 3 0 [(0, .int how), (1, .int u9)] [] _ _
  refine qq_iload_n dX7_ofEndless_0 rfl 1 rfl ?_
  refine qq_if_ne (tgt := 20) dX7_ofEndless_1 (by decide) (fun zc1 => ?_) (fun zc1 => ?_)
  · refine qq_iload_n dX7_ofEndless_20 rfl 0 rfl ?_
    refine qq_iconst (v := 1) dX7_ofEndless_21 (by decide) ?_
    refine qq_icmp_ne (tgt := 43) dX7_ofEndless_22 (by decide) (fun zc2 => ?_) (fun zc2 => ?_)
    · refine qq_iload_n dX7_ofEndless_43 rfl 0 rfl ?_
      refine qq_iconst (v := 2) dX7_ofEndless_44 (by decide) ?_
      refine qq_icmp_ne (tgt := 67) dX7_ofEndless_45 (by decide) (fun zc3 => ?_) (fun zc3 => ?_)
      · refine qq_null dX7_ofEndless_67 ?_
        have ze : r_X7_ofEndless how u9 S = none := by
          rw [r_X7_ofEndless, if_neg zc1, if_neg zc2, if_neg zc3]
        exact qq_aret dX7_ofEndless_68 rfl (Or.inr ⟨_, rfl⟩) (Or.inl rfl) ⟨hS, (fr_r _ _), Or.inl ⟨rfl, ze⟩⟩
      · refine qq_iconst (v := 3) dX7_ofEndless_48 (by decide) ?_
        refine qq_less (bc' := 0 + 1) (bs' := 0 + 3) (by omega) (by omega) ?_
        refine qq_newI (N' := 3) (ms := 3) dX7_ofEndless_49 (by decide) rfl (Nat.le_of_ble_eq_true rfl) (Nat.le_refl _) ?_ ka_int
        obtain ⟨hp1, he1⟩ : ∃ h, qq_nw hp (.inl (0, 3, .inl (fun _ => 0))) = h := ⟨_, rfl⟩
        obtain ⟨hS1, fr1, hr_n1, hl_n1⟩ := ms_n hS he1
        refine qq_hp (hp2 := hp1) he1 ?_
        show qq_Go _ hp1 (0) (0) 51 [(0, .int how), (1, .int u9)] [.ref hp.1] _ _
        refine qq_dup dX7_ofEndless_51 rfl ?_
        refine qq_iconst (v := 0) dX7_ofEndless_52 (by decide) ?_
        refine qq_iconst (v := 0) dX7_ofEndless_53 (by decide) ?_
        refine qq_iast dX7_ofEndless_54 hr_n1 (ms_80 hS) (vp_d (by decide)) ?_
        obtain ⟨hp2, he2⟩ : ∃ h : qq_H, (hp1.1, va_up hp1.2 hp.1 (.inl (0, 3, .inl (upd (fun _ => 0) (0 : Int32).toNatClampNeg (0 : Int32))))) = h := ⟨_, rfl⟩
        obtain ⟨hS2, hr_n2, hl_n2, ff2⟩ := ms_s hS1 hr_n1 (by decide) (by decide) hl_n1 he2 (ms_80 hS)
        have fr2 := ff2 A _ fr1 (Nat.le_refl _)
        refine qq_hp (hp2 := hp2) he2 ?_
        show qq_Go _ hp2 (0) (0) 55 [(0, .int how), (1, .int u9)] [.ref hp.1] _ _
        refine qq_dup dX7_ofEndless_55 rfl ?_
        refine qq_iconst (v := 1) dX7_ofEndless_56 (by decide) ?_
        refine qq_bipush (v := (-4)) dX7_ofEndless_57 (by decide) ?_
        refine qq_iast dX7_ofEndless_59 hr_n2 (ms_80 hS) (vp_d (by decide)) ?_
        obtain ⟨hp3, he3⟩ : ∃ h : qq_H, (hp2.1, va_up hp2.2 hp.1 (.inl (0, 3, .inl (upd (upd (fun _ => 0) (0 : Int32).toNatClampNeg (0 : Int32)) (1 : Int32).toNatClampNeg (-4 : Int32))))) = h := ⟨_, rfl⟩
        obtain ⟨hS3, hr_n3, hl_n3, ff3⟩ := ms_s hS2 hr_n2 (by decide) (by decide) hl_n2 he3 (ms_80 hS)
        have fr3 := ff3 A _ fr2 (Nat.le_refl _)
        refine qq_hp (hp2 := hp3) he3 ?_
        show qq_Go _ hp3 (0) (0) 60 [(0, .int how), (1, .int u9)] [.ref hp.1] _ _
        refine qq_dup dX7_ofEndless_60 rfl ?_
        refine qq_iconst (v := 2) dX7_ofEndless_61 (by decide) ?_
        refine qq_iconst (v := 0) dX7_ofEndless_62 (by decide) ?_
        refine qq_iast dX7_ofEndless_63 hr_n3 (ms_80 hS) (vp_d (by decide)) ?_
        obtain ⟨hp4, he4⟩ : ∃ h : qq_H, (hp3.1, va_up hp3.2 hp.1 (.inl (0, 3, .inl (upd (upd (upd (fun _ => 0) (0 : Int32).toNatClampNeg (0 : Int32)) (1 : Int32).toNatClampNeg (-4 : Int32)) (2 : Int32).toNatClampNeg (0 : Int32))))) = h := ⟨_, rfl⟩
        obtain ⟨hS4, hr_n4, hl_n4, ff4⟩ := ms_s hS3 hr_n3 (by decide) (by decide) hl_n3 he4 (ms_80 hS)
        have fr4 := ff4 A _ fr3 (Nat.le_refl _)
        refine qq_hp (hp2 := hp4) he4 ?_
        show qq_Go _ hp4 (0) (0) 64 [(0, .int how), (1, .int u9)] [.ref hp.1] _ _
        refine qq_goto (tgt := 68) dX7_ofEndless_64 (by decide) ?_
        have ze : r_X7_ofEndless how u9 S = some (upd (upd (upd (fun _ => 0) (0 : Int32).toNatClampNeg (0 : Int32)) (1 : Int32).toNatClampNeg (-4 : Int32)) (2 : Int32).toNatClampNeg (0 : Int32)) := by
          rw [r_X7_ofEndless, if_neg zc1, if_neg zc2, if_pos zc3]
        exact qq_aret dX7_ofEndless_68 rfl (Or.inr ⟨_, rfl⟩) (Or.inr ⟨_, rfl⟩) ⟨hS4, fr4, Or.inr ⟨_, _, rfl, ze, hr_n4, hl_n4⟩⟩
    · refine qq_iconst (v := 3) dX7_ofEndless_25 (by decide) ?_
      refine qq_less (bc' := 0 + 1) (bs' := 0 + 3) (by omega) (by omega) ?_
      refine qq_newI (N' := 3) (ms := 3) dX7_ofEndless_26 (by decide) rfl (Nat.le_of_ble_eq_true rfl) (Nat.le_refl _) ?_ ka_int
      obtain ⟨hp5, he5⟩ : ∃ h, qq_nw hp (.inl (0, 3, .inl (fun _ => 0))) = h := ⟨_, rfl⟩
      obtain ⟨hS5, fr5, hr_n5, hl_n5⟩ := ms_n hS he5
      refine qq_hp (hp2 := hp5) he5 ?_
      show qq_Go _ hp5 (0) (0) 28 [(0, .int how), (1, .int u9)] [.ref hp.1] _ _
      refine qq_dup dX7_ofEndless_28 rfl ?_
      refine qq_iconst (v := 0) dX7_ofEndless_29 (by decide) ?_
      refine qq_iconst (v := 0) dX7_ofEndless_30 (by decide) ?_
      refine qq_iast dX7_ofEndless_31 hr_n5 (ms_80 hS) (vp_d (by decide)) ?_
      obtain ⟨hp6, he6⟩ : ∃ h : qq_H, (hp5.1, va_up hp5.2 hp.1 (.inl (0, 3, .inl (upd (fun _ => 0) (0 : Int32).toNatClampNeg (0 : Int32))))) = h := ⟨_, rfl⟩
      obtain ⟨hS6, hr_n6, hl_n6, ff6⟩ := ms_s hS5 hr_n5 (by decide) (by decide) hl_n5 he6 (ms_80 hS)
      have fr6 := ff6 A _ fr5 (Nat.le_refl _)
      refine qq_hp (hp2 := hp6) he6 ?_
      show qq_Go _ hp6 (0) (0) 32 [(0, .int how), (1, .int u9)] [.ref hp.1] _ _
      refine qq_dup dX7_ofEndless_32 rfl ?_
      refine qq_iconst (v := 1) dX7_ofEndless_33 (by decide) ?_
      refine qq_iconst (v := 0) dX7_ofEndless_34 (by decide) ?_
      refine qq_iast dX7_ofEndless_35 hr_n6 (ms_80 hS) (vp_d (by decide)) ?_
      obtain ⟨hp7, he7⟩ : ∃ h : qq_H, (hp6.1, va_up hp6.2 hp.1 (.inl (0, 3, .inl (upd (upd (fun _ => 0) (0 : Int32).toNatClampNeg (0 : Int32)) (1 : Int32).toNatClampNeg (0 : Int32))))) = h := ⟨_, rfl⟩
      obtain ⟨hS7, hr_n7, hl_n7, ff7⟩ := ms_s hS6 hr_n6 (by decide) (by decide) hl_n6 he7 (ms_80 hS)
      have fr7 := ff7 A _ fr6 (Nat.le_refl _)
      refine qq_hp (hp2 := hp7) he7 ?_
      show qq_Go _ hp7 (0) (0) 36 [(0, .int how), (1, .int u9)] [.ref hp.1] _ _
      refine qq_dup dX7_ofEndless_36 rfl ?_
      refine qq_iconst (v := 2) dX7_ofEndless_37 (by decide) ?_
      refine qq_iconst (v := 0) dX7_ofEndless_38 (by decide) ?_
      refine qq_iast dX7_ofEndless_39 hr_n7 (ms_80 hS) (vp_d (by decide)) ?_
      obtain ⟨hp8, he8⟩ : ∃ h : qq_H, (hp7.1, va_up hp7.2 hp.1 (.inl (0, 3, .inl (upd (upd (upd (fun _ => 0) (0 : Int32).toNatClampNeg (0 : Int32)) (1 : Int32).toNatClampNeg (0 : Int32)) (2 : Int32).toNatClampNeg (0 : Int32))))) = h := ⟨_, rfl⟩
      obtain ⟨hS8, hr_n8, hl_n8, ff8⟩ := ms_s hS7 hr_n7 (by decide) (by decide) hl_n7 he8 (ms_80 hS)
      have fr8 := ff8 A _ fr7 (Nat.le_refl _)
      refine qq_hp (hp2 := hp8) he8 ?_
      show qq_Go _ hp8 (0) (0) 40 [(0, .int how), (1, .int u9)] [.ref hp.1] _ _
      refine qq_goto (tgt := 68) dX7_ofEndless_40 (by decide) ?_
      have ze : r_X7_ofEndless how u9 S = some (upd (upd (upd (fun _ => 0) (0 : Int32).toNatClampNeg (0 : Int32)) (1 : Int32).toNatClampNeg (0 : Int32)) (2 : Int32).toNatClampNeg (0 : Int32)) := by
        rw [r_X7_ofEndless, if_neg zc1, if_pos zc2]
      exact qq_aret dX7_ofEndless_68 rfl (Or.inr ⟨_, rfl⟩) (Or.inr ⟨_, rfl⟩) ⟨hS8, fr8, Or.inr ⟨_, _, rfl, ze, hr_n8, hl_n8⟩⟩
  · refine qq_iconst (v := 3) dX7_ofEndless_4 (by decide) ?_
    refine qq_less (bc' := 0 + 1) (bs' := 0 + 3) (by omega) (by omega) ?_
    refine qq_newI (N' := 3) (ms := 3) dX7_ofEndless_5 (by decide) rfl (Nat.le_of_ble_eq_true rfl) (Nat.le_refl _) ?_ ka_int
    obtain ⟨hp9, he9⟩ : ∃ h, qq_nw hp (.inl (0, 3, .inl (fun _ => 0))) = h := ⟨_, rfl⟩
    obtain ⟨hS9, fr9, hr_n9, hl_n9⟩ := ms_n hS he9
    refine qq_hp (hp2 := hp9) he9 ?_
    show qq_Go _ hp9 (0) (0) 7 [(0, .int how), (1, .int u9)] [.ref hp.1] _ _
    refine qq_dup dX7_ofEndless_7 rfl ?_
    refine qq_iconst (v := 0) dX7_ofEndless_8 (by decide) ?_
    refine qq_iconst (v := 1) dX7_ofEndless_9 (by decide) ?_
    refine qq_iast dX7_ofEndless_10 hr_n9 (ms_80 hS) (vp_d (by decide)) ?_
    obtain ⟨hp10, he10⟩ : ∃ h : qq_H, (hp9.1, va_up hp9.2 hp.1 (.inl (0, 3, .inl (upd (fun _ => 0) (0 : Int32).toNatClampNeg (1 : Int32))))) = h := ⟨_, rfl⟩
    obtain ⟨hS10, hr_n10, hl_n10, ff10⟩ := ms_s hS9 hr_n9 (by decide) (by decide) hl_n9 he10 (ms_80 hS)
    have fr10 := ff10 A _ fr9 (Nat.le_refl _)
    refine qq_hp (hp2 := hp10) he10 ?_
    show qq_Go _ hp10 (0) (0) 11 [(0, .int how), (1, .int u9)] [.ref hp.1] _ _
    refine qq_dup dX7_ofEndless_11 rfl ?_
    refine qq_iconst (v := 1) dX7_ofEndless_12 (by decide) ?_
    refine qq_iconst (v := 0) dX7_ofEndless_13 (by decide) ?_
    refine qq_iast dX7_ofEndless_14 hr_n10 (ms_80 hS) (vp_d (by decide)) ?_
    obtain ⟨hp11, he11⟩ : ∃ h : qq_H, (hp10.1, va_up hp10.2 hp.1 (.inl (0, 3, .inl (upd (upd (fun _ => 0) (0 : Int32).toNatClampNeg (1 : Int32)) (1 : Int32).toNatClampNeg (0 : Int32))))) = h := ⟨_, rfl⟩
    obtain ⟨hS11, hr_n11, hl_n11, ff11⟩ := ms_s hS10 hr_n10 (by decide) (by decide) hl_n10 he11 (ms_80 hS)
    have fr11 := ff11 A _ fr10 (Nat.le_refl _)
    refine qq_hp (hp2 := hp11) he11 ?_
    show qq_Go _ hp11 (0) (0) 15 [(0, .int how), (1, .int u9)] [.ref hp.1] _ _
    refine qq_dup dX7_ofEndless_15 rfl ?_
    refine qq_iconst (v := 2) dX7_ofEndless_16 (by decide) ?_
    refine qq_iconst (v := 0) dX7_ofEndless_17 (by decide) ?_
    refine qq_iast dX7_ofEndless_18 hr_n11 (ms_80 hS) (vp_d (by decide)) ?_
    obtain ⟨hp12, he12⟩ : ∃ h : qq_H, (hp11.1, va_up hp11.2 hp.1 (.inl (0, 3, .inl (upd (upd (upd (fun _ => 0) (0 : Int32).toNatClampNeg (1 : Int32)) (1 : Int32).toNatClampNeg (0 : Int32)) (2 : Int32).toNatClampNeg (0 : Int32))))) = h := ⟨_, rfl⟩
    obtain ⟨hS12, hr_n12, hl_n12, ff12⟩ := ms_s hS11 hr_n11 (by decide) (by decide) hl_n11 he12 (ms_80 hS)
    have fr12 := ff12 A _ fr11 (Nat.le_refl _)
    refine qq_hp (hp2 := hp12) he12 ?_
    show qq_Go _ hp12 (0) (0) 19 [(0, .int how), (1, .int u9)] [.ref hp.1] _ _
    have ze : r_X7_ofEndless how u9 S = some (upd (upd (upd (fun _ => 0) (0 : Int32).toNatClampNeg (1 : Int32)) (1 : Int32).toNatClampNeg (0 : Int32)) (2 : Int32).toNatClampNeg (0 : Int32)) := by
      rw [r_X7_ofEndless, if_pos zc1]
    exact qq_aret dX7_ofEndless_19 rfl (Or.inr ⟨_, rfl⟩) (Or.inr ⟨_, rfl⟩) ⟨hS12, fr12, Or.inr ⟨_, _, rfl, ze, hr_n12, hl_n12⟩⟩
def r_X7_become (how : Int32) (kd : Int32) (q9 : Int32) (u9 : Int32)  (S : sM) : Option qR := if kd = 1 then om (r_X7_ofEndless how u9 S) (none) (fun fo => some fo) else if kd = 0 then if q9 = 0 then if how = 1 then some (upd (upd (upd (fun _ => 0) (0 : Int32).toNatClampNeg (0 : Int32)) (1 : Int32).toNatClampNeg (4 : Int32)) (2 : Int32).toNatClampNeg (0 : Int32)) else if u9 = 0 then some (upd (upd (upd (fun _ => 0) (0 : Int32).toNatClampNeg (0 : Int32)) (1 : Int32).toNatClampNeg (0 : Int32)) (2 : Int32).toNatClampNeg (0 : Int32)) else some (upd (upd (upd (fun _ => 0) (0 : Int32).toNatClampNeg (0 : Int32)) (1 : Int32).toNatClampNeg (0 : Int32)) (2 : Int32).toNatClampNeg (1 : Int32)) else if kd = 0 then if how = 3 then if q9 = (-4) then some (upd (upd (upd (fun _ => 0) (0 : Int32).toNatClampNeg (1 : Int32)) (1 : Int32).toNatClampNeg (0 : Int32)) (2 : Int32).toNatClampNeg (1 : Int32)) else if kd = 0 then if (f_X7_isIn q9 (t_le how.toNatClampNeg) (t_gr how.toNatClampNeg)) = 0 then none else some (upd (upd (upd (fun _ => 0) (0 : Int32).toNatClampNeg (how + 1)) (1 : Int32).toNatClampNeg q9) (2 : Int32).toNatClampNeg (0 : Int32)) else none else if kd = 0 then if (f_X7_isIn q9 (t_le how.toNatClampNeg) (t_gr how.toNatClampNeg)) = 0 then none else some (upd (upd (upd (fun _ => 0) (0 : Int32).toNatClampNeg (how + 1)) (1 : Int32).toNatClampNeg q9) (2 : Int32).toNatClampNeg (0 : Int32)) else none else none else if kd = 0 then none else if kd = 0 then none else if how = 2 then if kd = 4 then some (upd (upd (upd (fun _ => 0) (0 : Int32).toNatClampNeg (6 : Int32)) (1 : Int32).toNatClampNeg q9) (2 : Int32).toNatClampNeg (0 : Int32)) else if how = 3 then if kd = 3 then if (-4) ≤ q9 then some (upd (upd (upd (fun _ => 0) (0 : Int32).toNatClampNeg (0 : Int32)) (1 : Int32).toNatClampNeg q9) (2 : Int32).toNatClampNeg (0 : Int32)) else some (upd (upd (upd (fun _ => 0) (0 : Int32).toNatClampNeg (5 : Int32)) (1 : Int32).toNatClampNeg q9) (2 : Int32).toNatClampNeg (0 : Int32)) else none else none else if how = 3 then if kd = 3 then if (-4) ≤ q9 then some (upd (upd (upd (fun _ => 0) (0 : Int32).toNatClampNeg (0 : Int32)) (1 : Int32).toNatClampNeg q9) (2 : Int32).toNatClampNeg (0 : Int32)) else some (upd (upd (upd (fun _ => 0) (0 : Int32).toNatClampNeg (5 : Int32)) (1 : Int32).toNatClampNeg q9) (2 : Int32).toNatClampNeg (0 : Int32)) else none else none
set_option maxRecDepth 4000 in
theorem mt_X7_become (hp : qq_H) (A : qA) (S : sM) (hS : ms_M A S hp) (how : Int32) (kd : Int32) (q9 : Int32) (u9 : Int32)     (zw : vp_in how 4) : qq_Mt mX7_become [.int how, .int kd, .int q9, .int u9] hp 1 3 (fun v hp' => ms_M A S hp' ∧ fr A hp hp' ∧ ((v = some .null ∧ r_X7_become how kd q9 u9 S = none) ∨ ∃ (r : Nat) (f : qR), v = some (.ref r) ∧ r_X7_become how kd q9 u9 S = some f ∧ hp'.2 r = .inl (0, 3, .inl f) ∧ r < hp'.1)) (fun _ _ => False) := by
  refine qq_met pn_X7 (Nat.le_of_ble_eq_true rfl) (Nat.le_of_ble_eq_true rfl) kc_X7_become ?_
  show qq_Go _ hp 1 3 0 [(0, .int how), (1, .int kd), (2, .int q9), (3, .int u9)] [] _ _
  refine qq_iload_n dX7_become_0 rfl 1 rfl ?_
  refine qq_iconst (v := 1) dX7_become_1 (by decide) ?_
  refine qq_icmp_ne (tgt := 11) dX7_become_2 (by decide) (fun zc1 => ?_) (fun zc1 => ?_)
  · refine qq_iload_n dX7_become_11 rfl 1 rfl ?_
    refine qq_if_ne (tgt := 66) dX7_become_12 (by decide) (fun zc2 => ?_) (fun zc2 => ?_)
    · refine qq_iload_n dX7_become_66 rfl 1 rfl ?_
      refine qq_if_ne (tgt := 97) dX7_become_67 (by decide) (fun zc3 => ?_) (fun zc3 => ?_)
      · refine qq_iload_n dX7_become_97 rfl 1 rfl ?_
        refine qq_if_ne (tgt := 140) dX7_become_98 (by decide) (fun zc4 => ?_) (fun zc4 => ?_)
        · refine qq_iload_n dX7_become_140 rfl 0 rfl ?_
          refine qq_iconst (v := 2) dX7_become_141 (by decide) ?_
          refine qq_icmp_ne (tgt := 167) dX7_become_142 (by decide) (fun zc5 => ?_) (fun zc5 => ?_)
          · refine qq_iload_n dX7_become_167 rfl 0 rfl ?_
            refine qq_iconst (v := 3) dX7_become_168 (by decide) ?_
            refine qq_icmp_ne (tgt := 203) dX7_become_169 (by decide) (fun zc6 => ?_) (fun zc6 => ?_)
            · refine qq_null dX7_become_203 ?_
              have ze : r_X7_become how kd q9 u9 S = none := by
                rw [r_X7_become, if_neg zc1, if_neg zc2, if_neg zc3, if_neg zc4, if_neg zc5, if_neg zc6]
              exact qq_aret dX7_become_204 rfl (Or.inr ⟨_, rfl⟩) (Or.inl rfl) ⟨hS, (fr_r _ _), Or.inl ⟨rfl, ze⟩⟩
            · refine qq_iload_n dX7_become_172 rfl 1 rfl ?_
              refine qq_iconst (v := 3) dX7_become_173 (by decide) ?_
              refine qq_icmp_ne (tgt := 203) dX7_become_174 (by decide) (fun zc7 => ?_) (fun zc7 => ?_)
              · refine qq_null dX7_become_203 ?_
                have ze : r_X7_become how kd q9 u9 S = none := by
                  rw [r_X7_become, if_neg zc1, if_neg zc2, if_neg zc3, if_neg zc4, if_neg zc5, if_pos zc6, if_neg zc7]
                exact qq_aret dX7_become_204 rfl (Or.inr ⟨_, rfl⟩) (Or.inl rfl) ⟨hS, (fr_r _ _), Or.inl ⟨rfl, ze⟩⟩
              · refine qq_iconst (v := 3) dX7_become_177 (by decide) ?_
                refine qq_less (bc' := 0 + 1) (bs' := 0 + 3) (by omega) (by omega) ?_
                refine qq_newI (N' := 3) (ms := 3) dX7_become_178 (by decide) rfl (Nat.le_of_ble_eq_true rfl) (Nat.le_refl _) ?_ ka_int
                obtain ⟨hp1, he1⟩ : ∃ h, qq_nw hp (.inl (0, 3, .inl (fun _ => 0))) = h := ⟨_, rfl⟩
                obtain ⟨hS1, fr1, hr_n1, hl_n1⟩ := ms_n hS he1
                refine qq_hp (hp2 := hp1) he1 ?_
                show qq_Go _ hp1 (0) (0) 180 [(0, .int how), (1, .int kd), (2, .int q9), (3, .int u9)] [.ref hp.1] _ _
                refine qq_dup dX7_become_180 rfl ?_
                refine qq_iconst (v := 0) dX7_become_181 (by decide) ?_
                refine qq_iload_n dX7_become_182 rfl 2 rfl ?_
                refine qq_bipush (v := (-4)) dX7_become_183 (by decide) ?_
                refine qq_icmp_ge (tgt := 192) dX7_become_185 (by decide) (fun zc8 => ?_) (fun zc8 => ?_)
                · refine qq_iconst (v := 0) dX7_become_192 (by decide) ?_
                  refine qq_iast dX7_become_193 hr_n1 (ms_80 hS) (vp_d (by decide)) ?_
                  obtain ⟨hp2, he2⟩ : ∃ h : qq_H, (hp1.1, va_up hp1.2 hp.1 (.inl (0, 3, .inl (upd (fun _ => 0) (0 : Int32).toNatClampNeg (0 : Int32))))) = h := ⟨_, rfl⟩
                  obtain ⟨hS2, hr_n2, hl_n2, ff2⟩ := ms_s hS1 hr_n1 (by decide) (by decide) hl_n1 he2 (ms_80 hS)
                  have fr2 := ff2 A _ fr1 (Nat.le_refl _)
                  refine qq_hp (hp2 := hp2) he2 ?_
                  show qq_Go _ hp2 (0) (0) 194 [(0, .int how), (1, .int kd), (2, .int q9), (3, .int u9)] [.ref hp.1] _ _
                  refine qq_dup dX7_become_194 rfl ?_
                  refine qq_iconst (v := 1) dX7_become_195 (by decide) ?_
                  refine qq_iload_n dX7_become_196 rfl 2 rfl ?_
                  refine qq_iast dX7_become_197 hr_n2 (ms_80 hS) (vp_d (by decide)) ?_
                  obtain ⟨hp3, he3⟩ : ∃ h : qq_H, (hp2.1, va_up hp2.2 hp.1 (.inl (0, 3, .inl (upd (upd (fun _ => 0) (0 : Int32).toNatClampNeg (0 : Int32)) (1 : Int32).toNatClampNeg q9)))) = h := ⟨_, rfl⟩
                  obtain ⟨hS3, hr_n3, hl_n3, ff3⟩ := ms_s hS2 hr_n2 (by decide) (by decide) hl_n2 he3 (ms_80 hS)
                  have fr3 := ff3 A _ fr2 (Nat.le_refl _)
                  refine qq_hp (hp2 := hp3) he3 ?_
                  show qq_Go _ hp3 (0) (0) 198 [(0, .int how), (1, .int kd), (2, .int q9), (3, .int u9)] [.ref hp.1] _ _
                  refine qq_dup dX7_become_198 rfl ?_
                  refine qq_iconst (v := 2) dX7_become_199 (by decide) ?_
                  refine qq_iconst (v := 0) dX7_become_200 (by decide) ?_
                  refine qq_iast dX7_become_201 hr_n3 (ms_80 hS) (vp_d (by decide)) ?_
                  obtain ⟨hp4, he4⟩ : ∃ h : qq_H, (hp3.1, va_up hp3.2 hp.1 (.inl (0, 3, .inl (upd (upd (upd (fun _ => 0) (0 : Int32).toNatClampNeg (0 : Int32)) (1 : Int32).toNatClampNeg q9) (2 : Int32).toNatClampNeg (0 : Int32))))) = h := ⟨_, rfl⟩
                  obtain ⟨hS4, hr_n4, hl_n4, ff4⟩ := ms_s hS3 hr_n3 (by decide) (by decide) hl_n3 he4 (ms_80 hS)
                  have fr4 := ff4 A _ fr3 (Nat.le_refl _)
                  refine qq_hp (hp2 := hp4) he4 ?_
                  show qq_Go _ hp4 (0) (0) 202 [(0, .int how), (1, .int kd), (2, .int q9), (3, .int u9)] [.ref hp.1] _ _
                  have ze : r_X7_become how kd q9 u9 S = some (upd (upd (upd (fun _ => 0) (0 : Int32).toNatClampNeg (0 : Int32)) (1 : Int32).toNatClampNeg q9) (2 : Int32).toNatClampNeg (0 : Int32)) := by
                    rw [r_X7_become, if_neg zc1, if_neg zc2, if_neg zc3, if_neg zc4, if_neg zc5, if_pos zc6, if_pos zc7, if_pos zc8]
                  exact qq_aret dX7_become_202 rfl (Or.inr ⟨_, rfl⟩) (Or.inr ⟨_, rfl⟩) ⟨hS4, fr4, Or.inr ⟨_, _, rfl, ze, hr_n4, hl_n4⟩⟩
                · refine qq_iconst (v := 5) dX7_become_188 (by decide) ?_
                  refine qq_goto (tgt := 193) dX7_become_189 (by decide) ?_
                  refine qq_iast dX7_become_193 hr_n1 (ms_80 hS) (vp_d (by decide)) ?_
                  obtain ⟨hp5, he5⟩ : ∃ h : qq_H, (hp1.1, va_up hp1.2 hp.1 (.inl (0, 3, .inl (upd (fun _ => 0) (0 : Int32).toNatClampNeg (5 : Int32))))) = h := ⟨_, rfl⟩
                  obtain ⟨hS5, hr_n5, hl_n5, ff5⟩ := ms_s hS1 hr_n1 (by decide) (by decide) hl_n1 he5 (ms_80 hS)
                  have fr5 := ff5 A _ fr1 (Nat.le_refl _)
                  refine qq_hp (hp2 := hp5) he5 ?_
                  show qq_Go _ hp5 (0) (0) 194 [(0, .int how), (1, .int kd), (2, .int q9), (3, .int u9)] [.ref hp.1] _ _
                  refine qq_dup dX7_become_194 rfl ?_
                  refine qq_iconst (v := 1) dX7_become_195 (by decide) ?_
                  refine qq_iload_n dX7_become_196 rfl 2 rfl ?_
                  refine qq_iast dX7_become_197 hr_n5 (ms_80 hS) (vp_d (by decide)) ?_
                  obtain ⟨hp6, he6⟩ : ∃ h : qq_H, (hp5.1, va_up hp5.2 hp.1 (.inl (0, 3, .inl (upd (upd (fun _ => 0) (0 : Int32).toNatClampNeg (5 : Int32)) (1 : Int32).toNatClampNeg q9)))) = h := ⟨_, rfl⟩
                  obtain ⟨hS6, hr_n6, hl_n6, ff6⟩ := ms_s hS5 hr_n5 (by decide) (by decide) hl_n5 he6 (ms_80 hS)
                  have fr6 := ff6 A _ fr5 (Nat.le_refl _)
                  refine qq_hp (hp2 := hp6) he6 ?_
                  show qq_Go _ hp6 (0) (0) 198 [(0, .int how), (1, .int kd), (2, .int q9), (3, .int u9)] [.ref hp.1] _ _
                  refine qq_dup dX7_become_198 rfl ?_
                  refine qq_iconst (v := 2) dX7_become_199 (by decide) ?_
                  refine qq_iconst (v := 0) dX7_become_200 (by decide) ?_
                  refine qq_iast dX7_become_201 hr_n6 (ms_80 hS) (vp_d (by decide)) ?_
                  obtain ⟨hp7, he7⟩ : ∃ h : qq_H, (hp6.1, va_up hp6.2 hp.1 (.inl (0, 3, .inl (upd (upd (upd (fun _ => 0) (0 : Int32).toNatClampNeg (5 : Int32)) (1 : Int32).toNatClampNeg q9) (2 : Int32).toNatClampNeg (0 : Int32))))) = h := ⟨_, rfl⟩
                  obtain ⟨hS7, hr_n7, hl_n7, ff7⟩ := ms_s hS6 hr_n6 (by decide) (by decide) hl_n6 he7 (ms_80 hS)
                  have fr7 := ff7 A _ fr6 (Nat.le_refl _)
                  refine qq_hp (hp2 := hp7) he7 ?_
                  show qq_Go _ hp7 (0) (0) 202 [(0, .int how), (1, .int kd), (2, .int q9), (3, .int u9)] [.ref hp.1] _ _
                  have ze : r_X7_become how kd q9 u9 S = some (upd (upd (upd (fun _ => 0) (0 : Int32).toNatClampNeg (5 : Int32)) (1 : Int32).toNatClampNeg q9) (2 : Int32).toNatClampNeg (0 : Int32)) := by
                    rw [r_X7_become, if_neg zc1, if_neg zc2, if_neg zc3, if_neg zc4, if_neg zc5, if_pos zc6, if_pos zc7, if_neg zc8]
                  exact qq_aret dX7_become_202 rfl (Or.inr ⟨_, rfl⟩) (Or.inr ⟨_, rfl⟩) ⟨hS7, fr7, Or.inr ⟨_, _, rfl, ze, hr_n7, hl_n7⟩⟩
          · refine qq_iload_n dX7_become_145 rfl 1 rfl ?_
            refine qq_iconst (v := 4) dX7_become_146 (by decide) ?_
            refine qq_icmp_ne (tgt := 167) dX7_become_147 (by decide) (fun zc9 => ?_) (fun zc9 => ?_)
            · refine qq_iload_n dX7_become_167 rfl 0 rfl ?_
              refine qq_iconst (v := 3) dX7_become_168 (by decide) ?_
              refine qq_icmp_ne (tgt := 203) dX7_become_169 (by decide) (fun zc10 => ?_) (fun zc10 => ?_)
              · refine qq_null dX7_become_203 ?_
                have ze : r_X7_become how kd q9 u9 S = none := by
                  rw [r_X7_become, if_neg zc1, if_neg zc2, if_neg zc3, if_neg zc4, if_pos zc5, if_neg zc9, if_neg zc10]
                exact qq_aret dX7_become_204 rfl (Or.inr ⟨_, rfl⟩) (Or.inl rfl) ⟨hS, (fr_r _ _), Or.inl ⟨rfl, ze⟩⟩
              · refine qq_iload_n dX7_become_172 rfl 1 rfl ?_
                refine qq_iconst (v := 3) dX7_become_173 (by decide) ?_
                refine qq_icmp_ne (tgt := 203) dX7_become_174 (by decide) (fun zc11 => ?_) (fun zc11 => ?_)
                · refine qq_null dX7_become_203 ?_
                  have ze : r_X7_become how kd q9 u9 S = none := by
                    rw [r_X7_become, if_neg zc1, if_neg zc2, if_neg zc3, if_neg zc4, if_pos zc5, if_neg zc9, if_pos zc10, if_neg zc11]
                  exact qq_aret dX7_become_204 rfl (Or.inr ⟨_, rfl⟩) (Or.inl rfl) ⟨hS, (fr_r _ _), Or.inl ⟨rfl, ze⟩⟩
                · refine qq_iconst (v := 3) dX7_become_177 (by decide) ?_
                  refine qq_less (bc' := 0 + 1) (bs' := 0 + 3) (by omega) (by omega) ?_
                  refine qq_newI (N' := 3) (ms := 3) dX7_become_178 (by decide) rfl (Nat.le_of_ble_eq_true rfl) (Nat.le_refl _) ?_ ka_int
                  obtain ⟨hp8, he8⟩ : ∃ h, qq_nw hp (.inl (0, 3, .inl (fun _ => 0))) = h := ⟨_, rfl⟩
                  obtain ⟨hS8, fr8, hr_n8, hl_n8⟩ := ms_n hS he8
                  refine qq_hp (hp2 := hp8) he8 ?_
                  show qq_Go _ hp8 (0) (0) 180 [(0, .int how), (1, .int kd), (2, .int q9), (3, .int u9)] [.ref hp.1] _ _
                  refine qq_dup dX7_become_180 rfl ?_
                  refine qq_iconst (v := 0) dX7_become_181 (by decide) ?_
                  refine qq_iload_n dX7_become_182 rfl 2 rfl ?_
                  refine qq_bipush (v := (-4)) dX7_become_183 (by decide) ?_
                  refine qq_icmp_ge (tgt := 192) dX7_become_185 (by decide) (fun zc12 => ?_) (fun zc12 => ?_)
                  · refine qq_iconst (v := 0) dX7_become_192 (by decide) ?_
                    refine qq_iast dX7_become_193 hr_n8 (ms_80 hS) (vp_d (by decide)) ?_
                    obtain ⟨hp9, he9⟩ : ∃ h : qq_H, (hp8.1, va_up hp8.2 hp.1 (.inl (0, 3, .inl (upd (fun _ => 0) (0 : Int32).toNatClampNeg (0 : Int32))))) = h := ⟨_, rfl⟩
                    obtain ⟨hS9, hr_n9, hl_n9, ff9⟩ := ms_s hS8 hr_n8 (by decide) (by decide) hl_n8 he9 (ms_80 hS)
                    have fr9 := ff9 A _ fr8 (Nat.le_refl _)
                    refine qq_hp (hp2 := hp9) he9 ?_
                    show qq_Go _ hp9 (0) (0) 194 [(0, .int how), (1, .int kd), (2, .int q9), (3, .int u9)] [.ref hp.1] _ _
                    refine qq_dup dX7_become_194 rfl ?_
                    refine qq_iconst (v := 1) dX7_become_195 (by decide) ?_
                    refine qq_iload_n dX7_become_196 rfl 2 rfl ?_
                    refine qq_iast dX7_become_197 hr_n9 (ms_80 hS) (vp_d (by decide)) ?_
                    obtain ⟨hp10, he10⟩ : ∃ h : qq_H, (hp9.1, va_up hp9.2 hp.1 (.inl (0, 3, .inl (upd (upd (fun _ => 0) (0 : Int32).toNatClampNeg (0 : Int32)) (1 : Int32).toNatClampNeg q9)))) = h := ⟨_, rfl⟩
                    obtain ⟨hS10, hr_n10, hl_n10, ff10⟩ := ms_s hS9 hr_n9 (by decide) (by decide) hl_n9 he10 (ms_80 hS)
                    have fr10 := ff10 A _ fr9 (Nat.le_refl _)
                    refine qq_hp (hp2 := hp10) he10 ?_
                    show qq_Go _ hp10 (0) (0) 198 [(0, .int how), (1, .int kd), (2, .int q9), (3, .int u9)] [.ref hp.1] _ _
                    refine qq_dup dX7_become_198 rfl ?_
                    refine qq_iconst (v := 2) dX7_become_199 (by decide) ?_
                    refine qq_iconst (v := 0) dX7_become_200 (by decide) ?_
                    refine qq_iast dX7_become_201 hr_n10 (ms_80 hS) (vp_d (by decide)) ?_
                    obtain ⟨hp11, he11⟩ : ∃ h : qq_H, (hp10.1, va_up hp10.2 hp.1 (.inl (0, 3, .inl (upd (upd (upd (fun _ => 0) (0 : Int32).toNatClampNeg (0 : Int32)) (1 : Int32).toNatClampNeg q9) (2 : Int32).toNatClampNeg (0 : Int32))))) = h := ⟨_, rfl⟩
                    obtain ⟨hS11, hr_n11, hl_n11, ff11⟩ := ms_s hS10 hr_n10 (by decide) (by decide) hl_n10 he11 (ms_80 hS)
                    have fr11 := ff11 A _ fr10 (Nat.le_refl _)
                    refine qq_hp (hp2 := hp11) he11 ?_
                    show qq_Go _ hp11 (0) (0) 202 [(0, .int how), (1, .int kd), (2, .int q9), (3, .int u9)] [.ref hp.1] _ _
                    have ze : r_X7_become how kd q9 u9 S = some (upd (upd (upd (fun _ => 0) (0 : Int32).toNatClampNeg (0 : Int32)) (1 : Int32).toNatClampNeg q9) (2 : Int32).toNatClampNeg (0 : Int32)) := by
                      rw [r_X7_become, if_neg zc1, if_neg zc2, if_neg zc3, if_neg zc4, if_pos zc5, if_neg zc9, if_pos zc10, if_pos zc11, if_pos zc12]
                    exact qq_aret dX7_become_202 rfl (Or.inr ⟨_, rfl⟩) (Or.inr ⟨_, rfl⟩) ⟨hS11, fr11, Or.inr ⟨_, _, rfl, ze, hr_n11, hl_n11⟩⟩
                  · refine qq_iconst (v := 5) dX7_become_188 (by decide) ?_
                    refine qq_goto (tgt := 193) dX7_become_189 (by decide) ?_
                    refine qq_iast dX7_become_193 hr_n8 (ms_80 hS) (vp_d (by decide)) ?_
                    obtain ⟨hp12, he12⟩ : ∃ h : qq_H, (hp8.1, va_up hp8.2 hp.1 (.inl (0, 3, .inl (upd (fun _ => 0) (0 : Int32).toNatClampNeg (5 : Int32))))) = h := ⟨_, rfl⟩
                    obtain ⟨hS12, hr_n12, hl_n12, ff12⟩ := ms_s hS8 hr_n8 (by decide) (by decide) hl_n8 he12 (ms_80 hS)
                    have fr12 := ff12 A _ fr8 (Nat.le_refl _)
                    refine qq_hp (hp2 := hp12) he12 ?_
                    show qq_Go _ hp12 (0) (0) 194 [(0, .int how), (1, .int kd), (2, .int q9), (3, .int u9)] [.ref hp.1] _ _
                    refine qq_dup dX7_become_194 rfl ?_
                    refine qq_iconst (v := 1) dX7_become_195 (by decide) ?_
                    refine qq_iload_n dX7_become_196 rfl 2 rfl ?_
                    refine qq_iast dX7_become_197 hr_n12 (ms_80 hS) (vp_d (by decide)) ?_
                    obtain ⟨hp13, he13⟩ : ∃ h : qq_H, (hp12.1, va_up hp12.2 hp.1 (.inl (0, 3, .inl (upd (upd (fun _ => 0) (0 : Int32).toNatClampNeg (5 : Int32)) (1 : Int32).toNatClampNeg q9)))) = h := ⟨_, rfl⟩
                    obtain ⟨hS13, hr_n13, hl_n13, ff13⟩ := ms_s hS12 hr_n12 (by decide) (by decide) hl_n12 he13 (ms_80 hS)
                    have fr13 := ff13 A _ fr12 (Nat.le_refl _)
                    refine qq_hp (hp2 := hp13) he13 ?_
                    show qq_Go _ hp13 (0) (0) 198 [(0, .int how), (1, .int kd), (2, .int q9), (3, .int u9)] [.ref hp.1] _ _
                    refine qq_dup dX7_become_198 rfl ?_
                    refine qq_iconst (v := 2) dX7_become_199 (by decide) ?_
                    refine qq_iconst (v := 0) dX7_become_200 (by decide) ?_
                    refine qq_iast dX7_become_201 hr_n13 (ms_80 hS) (vp_d (by decide)) ?_
                    obtain ⟨hp14, he14⟩ : ∃ h : qq_H, (hp13.1, va_up hp13.2 hp.1 (.inl (0, 3, .inl (upd (upd (upd (fun _ => 0) (0 : Int32).toNatClampNeg (5 : Int32)) (1 : Int32).toNatClampNeg q9) (2 : Int32).toNatClampNeg (0 : Int32))))) = h := ⟨_, rfl⟩
                    obtain ⟨hS14, hr_n14, hl_n14, ff14⟩ := ms_s hS13 hr_n13 (by decide) (by decide) hl_n13 he14 (ms_80 hS)
                    have fr14 := ff14 A _ fr13 (Nat.le_refl _)
                    refine qq_hp (hp2 := hp14) he14 ?_
                    show qq_Go _ hp14 (0) (0) 202 [(0, .int how), (1, .int kd), (2, .int q9), (3, .int u9)] [.ref hp.1] _ _
                    have ze : r_X7_become how kd q9 u9 S = some (upd (upd (upd (fun _ => 0) (0 : Int32).toNatClampNeg (5 : Int32)) (1 : Int32).toNatClampNeg q9) (2 : Int32).toNatClampNeg (0 : Int32)) := by
                      rw [r_X7_become, if_neg zc1, if_neg zc2, if_neg zc3, if_neg zc4, if_pos zc5, if_neg zc9, if_pos zc10, if_pos zc11, if_neg zc12]
                    exact qq_aret dX7_become_202 rfl (Or.inr ⟨_, rfl⟩) (Or.inr ⟨_, rfl⟩) ⟨hS14, fr14, Or.inr ⟨_, _, rfl, ze, hr_n14, hl_n14⟩⟩
            · refine qq_iconst (v := 3) dX7_become_150 (by decide) ?_
              refine qq_less (bc' := 0 + 1) (bs' := 0 + 3) (by omega) (by omega) ?_
              refine qq_newI (N' := 3) (ms := 3) dX7_become_151 (by decide) rfl (Nat.le_of_ble_eq_true rfl) (Nat.le_refl _) ?_ ka_int
              obtain ⟨hp15, he15⟩ : ∃ h, qq_nw hp (.inl (0, 3, .inl (fun _ => 0))) = h := ⟨_, rfl⟩
              obtain ⟨hS15, fr15, hr_n15, hl_n15⟩ := ms_n hS he15
              refine qq_hp (hp2 := hp15) he15 ?_
              show qq_Go _ hp15 (0) (0) 153 [(0, .int how), (1, .int kd), (2, .int q9), (3, .int u9)] [.ref hp.1] _ _
              refine qq_dup dX7_become_153 rfl ?_
              refine qq_iconst (v := 0) dX7_become_154 (by decide) ?_
              refine qq_bipush (v := 6) dX7_become_155 (by decide) ?_
              refine qq_iast dX7_become_157 hr_n15 (ms_80 hS) (vp_d (by decide)) ?_
              obtain ⟨hp16, he16⟩ : ∃ h : qq_H, (hp15.1, va_up hp15.2 hp.1 (.inl (0, 3, .inl (upd (fun _ => 0) (0 : Int32).toNatClampNeg (6 : Int32))))) = h := ⟨_, rfl⟩
              obtain ⟨hS16, hr_n16, hl_n16, ff16⟩ := ms_s hS15 hr_n15 (by decide) (by decide) hl_n15 he16 (ms_80 hS)
              have fr16 := ff16 A _ fr15 (Nat.le_refl _)
              refine qq_hp (hp2 := hp16) he16 ?_
              show qq_Go _ hp16 (0) (0) 158 [(0, .int how), (1, .int kd), (2, .int q9), (3, .int u9)] [.ref hp.1] _ _
              refine qq_dup dX7_become_158 rfl ?_
              refine qq_iconst (v := 1) dX7_become_159 (by decide) ?_
              refine qq_iload_n dX7_become_160 rfl 2 rfl ?_
              refine qq_iast dX7_become_161 hr_n16 (ms_80 hS) (vp_d (by decide)) ?_
              obtain ⟨hp17, he17⟩ : ∃ h : qq_H, (hp16.1, va_up hp16.2 hp.1 (.inl (0, 3, .inl (upd (upd (fun _ => 0) (0 : Int32).toNatClampNeg (6 : Int32)) (1 : Int32).toNatClampNeg q9)))) = h := ⟨_, rfl⟩
              obtain ⟨hS17, hr_n17, hl_n17, ff17⟩ := ms_s hS16 hr_n16 (by decide) (by decide) hl_n16 he17 (ms_80 hS)
              have fr17 := ff17 A _ fr16 (Nat.le_refl _)
              refine qq_hp (hp2 := hp17) he17 ?_
              show qq_Go _ hp17 (0) (0) 162 [(0, .int how), (1, .int kd), (2, .int q9), (3, .int u9)] [.ref hp.1] _ _
              refine qq_dup dX7_become_162 rfl ?_
              refine qq_iconst (v := 2) dX7_become_163 (by decide) ?_
              refine qq_iconst (v := 0) dX7_become_164 (by decide) ?_
              refine qq_iast dX7_become_165 hr_n17 (ms_80 hS) (vp_d (by decide)) ?_
              obtain ⟨hp18, he18⟩ : ∃ h : qq_H, (hp17.1, va_up hp17.2 hp.1 (.inl (0, 3, .inl (upd (upd (upd (fun _ => 0) (0 : Int32).toNatClampNeg (6 : Int32)) (1 : Int32).toNatClampNeg q9) (2 : Int32).toNatClampNeg (0 : Int32))))) = h := ⟨_, rfl⟩
              obtain ⟨hS18, hr_n18, hl_n18, ff18⟩ := ms_s hS17 hr_n17 (by decide) (by decide) hl_n17 he18 (ms_80 hS)
              have fr18 := ff18 A _ fr17 (Nat.le_refl _)
              refine qq_hp (hp2 := hp18) he18 ?_
              show qq_Go _ hp18 (0) (0) 166 [(0, .int how), (1, .int kd), (2, .int q9), (3, .int u9)] [.ref hp.1] _ _
              have ze : r_X7_become how kd q9 u9 S = some (upd (upd (upd (fun _ => 0) (0 : Int32).toNatClampNeg (6 : Int32)) (1 : Int32).toNatClampNeg q9) (2 : Int32).toNatClampNeg (0 : Int32)) := by
                rw [r_X7_become, if_neg zc1, if_neg zc2, if_neg zc3, if_neg zc4, if_pos zc5, if_pos zc9]
              exact qq_aret dX7_become_166 rfl (Or.inr ⟨_, rfl⟩) (Or.inr ⟨_, rfl⟩) ⟨hS18, fr18, Or.inr ⟨_, _, rfl, ze, hr_n18, hl_n18⟩⟩
        · exact absurd zc4 zc3
      · exact absurd zc3 zc2
    · refine qq_iload_n dX7_become_15 rfl 2 rfl ?_
      refine qq_if_ne (tgt := 66) dX7_become_16 (by decide) (fun zc13 => ?_) (fun zc13 => ?_)
      · refine qq_iload_n dX7_become_66 rfl 1 rfl ?_
        refine qq_if_ne (tgt := 97) dX7_become_67 (by decide) (fun zc14 => ?_) (fun zc14 => ?_)
        · exact absurd zc2 zc14
        · refine qq_iload_n dX7_become_70 rfl 0 rfl ?_
          refine qq_iconst (v := 3) dX7_become_71 (by decide) ?_
          refine qq_icmp_ne (tgt := 97) dX7_become_72 (by decide) (fun zc15 => ?_) (fun zc15 => ?_)
          · refine qq_iload_n dX7_become_97 rfl 1 rfl ?_
            refine qq_if_ne (tgt := 140) dX7_become_98 (by decide) (fun zc16 => ?_) (fun zc16 => ?_)
            · exact absurd zc14 zc16
            · refine qq_iload_n dX7_become_101 rfl 2 rfl ?_
              refine qq_gets (C := "QuarterpowersModel") (nm := "LEAST") (d := "[I") (v := .ref 4) dX7_become_102 (by decide +kernel) kl_X7_148 ?_
              refine qq_iload_n dX7_become_105 rfl 0 rfl ?_
              refine qq_iald (n := 4) (f := t_le) dX7_become_106 (hS.1.2 4 (by decide) (by decide)) zw ?_
              show qq_Go _ hp (1) (3) 107 [(0, .int how), (1, .int kd), (2, .int q9), (3, .int u9)] [.int (t_le how.toNatClampNeg), .int q9] _ _
              refine qq_gets (C := "QuarterpowersModel") (nm := "GREATEST") (d := "[I") (v := .ref 5) dX7_become_107 (by decide +kernel) kl_X7_151 ?_
              refine qq_iload_n dX7_become_110 rfl 0 rfl ?_
              refine qq_iald (n := 4) (f := t_gr) dX7_become_111 (hS.1.2 5 (by decide) (by decide)) zw ?_
              show qq_Go _ hp (1) (3) 112 [(0, .int how), (1, .int kd), (2, .int q9), (3, .int u9)] [.int (t_gr how.toNatClampNeg), .int (t_le how.toNatClampNeg), .int q9] _ _
              refine qq_less (bc' := 1 + 0) (bs' := 3 + 0) (by omega) (by omega) ?_
              refine qq_callS (bc := 1) (bs := 3) (mc := 0) (ms := 0) (as := [.int q9, .int (t_le how.toNatClampNeg), .int (t_gr how.toNatClampNeg)]) (rest := []) dX7_become_112 (mt_X7_isIn hp q9 (t_le how.toNatClampNeg) (t_gr how.toNatClampNeg)) rfl kl_X7_113 ks_X7_isIn ki_X7 kc_X7_isIn kd_X7_isIn rfl (by decide) (by decide) (Nat.le_of_ble_eq_true rfl) (fun v hp' hv _ _ => ?_) (fun E hp' zx _ _ => zx.elim)
              obtain ⟨rfl, rfl⟩ := hv
              show qq_Go _ hp (1) (3) 115 [(0, .int how), (1, .int kd), (2, .int q9), (3, .int u9)] [.int (f_X7_isIn q9 (t_le how.toNatClampNeg) (t_gr how.toNatClampNeg))] _ _
              refine qq_if_eq (tgt := 138) dX7_become_115 (by decide) (fun zc17 => ?_) (fun zc17 => ?_)
              · refine qq_null dX7_become_138 ?_
                have ze : r_X7_become how kd q9 u9 S = none := by
                  rw [r_X7_become, if_neg zc1, if_pos zc2, if_neg zc13, if_pos zc14, if_neg zc15, if_pos zc16, if_pos zc17]
                exact qq_aret dX7_become_139 rfl (Or.inr ⟨_, rfl⟩) (Or.inl rfl) ⟨hS, (fr_r _ _), Or.inl ⟨rfl, ze⟩⟩
              · refine qq_iconst (v := 3) dX7_become_118 (by decide) ?_
                refine qq_less (bc' := 0 + 1) (bs' := 0 + 3) (by omega) (by omega) ?_
                refine qq_newI (N' := 3) (ms := 3) dX7_become_119 (by decide) rfl (Nat.le_of_ble_eq_true rfl) (Nat.le_refl _) ?_ ka_int
                obtain ⟨hp19, he19⟩ : ∃ h, qq_nw hp (.inl (0, 3, .inl (fun _ => 0))) = h := ⟨_, rfl⟩
                obtain ⟨hS19, fr19, hr_n19, hl_n19⟩ := ms_n hS he19
                refine qq_hp (hp2 := hp19) he19 ?_
                show qq_Go _ hp19 (0) (0) 121 [(0, .int how), (1, .int kd), (2, .int q9), (3, .int u9)] [.ref hp.1] _ _
                refine qq_dup dX7_become_121 rfl ?_
                refine qq_iconst (v := 0) dX7_become_122 (by decide) ?_
                refine qq_iload_n dX7_become_123 rfl 0 rfl ?_
                refine qq_iconst (v := 1) dX7_become_124 (by decide) ?_
                refine qq_iadd dX7_become_125 ?_
                refine qq_iast dX7_become_126 hr_n19 (ms_80 hS) (vp_d (by decide)) ?_
                obtain ⟨hp20, he20⟩ : ∃ h : qq_H, (hp19.1, va_up hp19.2 hp.1 (.inl (0, 3, .inl (upd (fun _ => 0) (0 : Int32).toNatClampNeg (how + 1))))) = h := ⟨_, rfl⟩
                obtain ⟨hS20, hr_n20, hl_n20, ff20⟩ := ms_s hS19 hr_n19 (by decide) (by decide) hl_n19 he20 (ms_80 hS)
                have fr20 := ff20 A _ fr19 (Nat.le_refl _)
                refine qq_hp (hp2 := hp20) he20 ?_
                show qq_Go _ hp20 (0) (0) 127 [(0, .int how), (1, .int kd), (2, .int q9), (3, .int u9)] [.ref hp.1] _ _
                refine qq_dup dX7_become_127 rfl ?_
                refine qq_iconst (v := 1) dX7_become_128 (by decide) ?_
                refine qq_iload_n dX7_become_129 rfl 2 rfl ?_
                refine qq_iast dX7_become_130 hr_n20 (ms_80 hS) (vp_d (by decide)) ?_
                obtain ⟨hp21, he21⟩ : ∃ h : qq_H, (hp20.1, va_up hp20.2 hp.1 (.inl (0, 3, .inl (upd (upd (fun _ => 0) (0 : Int32).toNatClampNeg (how + 1)) (1 : Int32).toNatClampNeg q9)))) = h := ⟨_, rfl⟩
                obtain ⟨hS21, hr_n21, hl_n21, ff21⟩ := ms_s hS20 hr_n20 (by decide) (by decide) hl_n20 he21 (ms_80 hS)
                have fr21 := ff21 A _ fr20 (Nat.le_refl _)
                refine qq_hp (hp2 := hp21) he21 ?_
                show qq_Go _ hp21 (0) (0) 131 [(0, .int how), (1, .int kd), (2, .int q9), (3, .int u9)] [.ref hp.1] _ _
                refine qq_dup dX7_become_131 rfl ?_
                refine qq_iconst (v := 2) dX7_become_132 (by decide) ?_
                refine qq_iconst (v := 0) dX7_become_133 (by decide) ?_
                refine qq_iast dX7_become_134 hr_n21 (ms_80 hS) (vp_d (by decide)) ?_
                obtain ⟨hp22, he22⟩ : ∃ h : qq_H, (hp21.1, va_up hp21.2 hp.1 (.inl (0, 3, .inl (upd (upd (upd (fun _ => 0) (0 : Int32).toNatClampNeg (how + 1)) (1 : Int32).toNatClampNeg q9) (2 : Int32).toNatClampNeg (0 : Int32))))) = h := ⟨_, rfl⟩
                obtain ⟨hS22, hr_n22, hl_n22, ff22⟩ := ms_s hS21 hr_n21 (by decide) (by decide) hl_n21 he22 (ms_80 hS)
                have fr22 := ff22 A _ fr21 (Nat.le_refl _)
                refine qq_hp (hp2 := hp22) he22 ?_
                show qq_Go _ hp22 (0) (0) 135 [(0, .int how), (1, .int kd), (2, .int q9), (3, .int u9)] [.ref hp.1] _ _
                refine qq_goto (tgt := 139) dX7_become_135 (by decide) ?_
                have ze : r_X7_become how kd q9 u9 S = some (upd (upd (upd (fun _ => 0) (0 : Int32).toNatClampNeg (how + 1)) (1 : Int32).toNatClampNeg q9) (2 : Int32).toNatClampNeg (0 : Int32)) := by
                  rw [r_X7_become, if_neg zc1, if_pos zc2, if_neg zc13, if_pos zc14, if_neg zc15, if_pos zc16, if_neg zc17]
                exact qq_aret dX7_become_139 rfl (Or.inr ⟨_, rfl⟩) (Or.inr ⟨_, rfl⟩) ⟨hS22, fr22, Or.inr ⟨_, _, rfl, ze, hr_n22, hl_n22⟩⟩
          · refine qq_iload_n dX7_become_75 rfl 2 rfl ?_
            refine qq_bipush (v := (-4)) dX7_become_76 (by decide) ?_
            refine qq_icmp_ne (tgt := 97) dX7_become_78 (by decide) (fun zc18 => ?_) (fun zc18 => ?_)
            · refine qq_iload_n dX7_become_97 rfl 1 rfl ?_
              refine qq_if_ne (tgt := 140) dX7_become_98 (by decide) (fun zc19 => ?_) (fun zc19 => ?_)
              · exact absurd zc14 zc19
              · refine qq_iload_n dX7_become_101 rfl 2 rfl ?_
                refine qq_gets (C := "QuarterpowersModel") (nm := "LEAST") (d := "[I") (v := .ref 4) dX7_become_102 (by decide +kernel) kl_X7_148 ?_
                refine qq_iload_n dX7_become_105 rfl 0 rfl ?_
                refine qq_iald (n := 4) (f := t_le) dX7_become_106 (hS.1.2 4 (by decide) (by decide)) zw ?_
                show qq_Go _ hp (1) (3) 107 [(0, .int how), (1, .int kd), (2, .int q9), (3, .int u9)] [.int (t_le how.toNatClampNeg), .int q9] _ _
                refine qq_gets (C := "QuarterpowersModel") (nm := "GREATEST") (d := "[I") (v := .ref 5) dX7_become_107 (by decide +kernel) kl_X7_151 ?_
                refine qq_iload_n dX7_become_110 rfl 0 rfl ?_
                refine qq_iald (n := 4) (f := t_gr) dX7_become_111 (hS.1.2 5 (by decide) (by decide)) zw ?_
                show qq_Go _ hp (1) (3) 112 [(0, .int how), (1, .int kd), (2, .int q9), (3, .int u9)] [.int (t_gr how.toNatClampNeg), .int (t_le how.toNatClampNeg), .int q9] _ _
                refine qq_less (bc' := 1 + 0) (bs' := 3 + 0) (by omega) (by omega) ?_
                refine qq_callS (bc := 1) (bs := 3) (mc := 0) (ms := 0) (as := [.int q9, .int (t_le how.toNatClampNeg), .int (t_gr how.toNatClampNeg)]) (rest := []) dX7_become_112 (mt_X7_isIn hp q9 (t_le how.toNatClampNeg) (t_gr how.toNatClampNeg)) rfl kl_X7_113 ks_X7_isIn ki_X7 kc_X7_isIn kd_X7_isIn rfl (by decide) (by decide) (Nat.le_of_ble_eq_true rfl) (fun v hp' hv _ _ => ?_) (fun E hp' zx _ _ => zx.elim)
                obtain ⟨rfl, rfl⟩ := hv
                show qq_Go _ hp (1) (3) 115 [(0, .int how), (1, .int kd), (2, .int q9), (3, .int u9)] [.int (f_X7_isIn q9 (t_le how.toNatClampNeg) (t_gr how.toNatClampNeg))] _ _
                refine qq_if_eq (tgt := 138) dX7_become_115 (by decide) (fun zc20 => ?_) (fun zc20 => ?_)
                · refine qq_null dX7_become_138 ?_
                  have ze : r_X7_become how kd q9 u9 S = none := by
                    rw [r_X7_become, if_neg zc1, if_pos zc2, if_neg zc13, if_pos zc14, if_pos zc15, if_neg zc18, if_pos zc19, if_pos zc20]
                  exact qq_aret dX7_become_139 rfl (Or.inr ⟨_, rfl⟩) (Or.inl rfl) ⟨hS, (fr_r _ _), Or.inl ⟨rfl, ze⟩⟩
                · refine qq_iconst (v := 3) dX7_become_118 (by decide) ?_
                  refine qq_less (bc' := 0 + 1) (bs' := 0 + 3) (by omega) (by omega) ?_
                  refine qq_newI (N' := 3) (ms := 3) dX7_become_119 (by decide) rfl (Nat.le_of_ble_eq_true rfl) (Nat.le_refl _) ?_ ka_int
                  obtain ⟨hp23, he23⟩ : ∃ h, qq_nw hp (.inl (0, 3, .inl (fun _ => 0))) = h := ⟨_, rfl⟩
                  obtain ⟨hS23, fr23, hr_n23, hl_n23⟩ := ms_n hS he23
                  refine qq_hp (hp2 := hp23) he23 ?_
                  show qq_Go _ hp23 (0) (0) 121 [(0, .int how), (1, .int kd), (2, .int q9), (3, .int u9)] [.ref hp.1] _ _
                  refine qq_dup dX7_become_121 rfl ?_
                  refine qq_iconst (v := 0) dX7_become_122 (by decide) ?_
                  refine qq_iload_n dX7_become_123 rfl 0 rfl ?_
                  refine qq_iconst (v := 1) dX7_become_124 (by decide) ?_
                  refine qq_iadd dX7_become_125 ?_
                  refine qq_iast dX7_become_126 hr_n23 (ms_80 hS) (vp_d (by decide)) ?_
                  obtain ⟨hp24, he24⟩ : ∃ h : qq_H, (hp23.1, va_up hp23.2 hp.1 (.inl (0, 3, .inl (upd (fun _ => 0) (0 : Int32).toNatClampNeg (how + 1))))) = h := ⟨_, rfl⟩
                  obtain ⟨hS24, hr_n24, hl_n24, ff24⟩ := ms_s hS23 hr_n23 (by decide) (by decide) hl_n23 he24 (ms_80 hS)
                  have fr24 := ff24 A _ fr23 (Nat.le_refl _)
                  refine qq_hp (hp2 := hp24) he24 ?_
                  show qq_Go _ hp24 (0) (0) 127 [(0, .int how), (1, .int kd), (2, .int q9), (3, .int u9)] [.ref hp.1] _ _
                  refine qq_dup dX7_become_127 rfl ?_
                  refine qq_iconst (v := 1) dX7_become_128 (by decide) ?_
                  refine qq_iload_n dX7_become_129 rfl 2 rfl ?_
                  refine qq_iast dX7_become_130 hr_n24 (ms_80 hS) (vp_d (by decide)) ?_
                  obtain ⟨hp25, he25⟩ : ∃ h : qq_H, (hp24.1, va_up hp24.2 hp.1 (.inl (0, 3, .inl (upd (upd (fun _ => 0) (0 : Int32).toNatClampNeg (how + 1)) (1 : Int32).toNatClampNeg q9)))) = h := ⟨_, rfl⟩
                  obtain ⟨hS25, hr_n25, hl_n25, ff25⟩ := ms_s hS24 hr_n24 (by decide) (by decide) hl_n24 he25 (ms_80 hS)
                  have fr25 := ff25 A _ fr24 (Nat.le_refl _)
                  refine qq_hp (hp2 := hp25) he25 ?_
                  show qq_Go _ hp25 (0) (0) 131 [(0, .int how), (1, .int kd), (2, .int q9), (3, .int u9)] [.ref hp.1] _ _
                  refine qq_dup dX7_become_131 rfl ?_
                  refine qq_iconst (v := 2) dX7_become_132 (by decide) ?_
                  refine qq_iconst (v := 0) dX7_become_133 (by decide) ?_
                  refine qq_iast dX7_become_134 hr_n25 (ms_80 hS) (vp_d (by decide)) ?_
                  obtain ⟨hp26, he26⟩ : ∃ h : qq_H, (hp25.1, va_up hp25.2 hp.1 (.inl (0, 3, .inl (upd (upd (upd (fun _ => 0) (0 : Int32).toNatClampNeg (how + 1)) (1 : Int32).toNatClampNeg q9) (2 : Int32).toNatClampNeg (0 : Int32))))) = h := ⟨_, rfl⟩
                  obtain ⟨hS26, hr_n26, hl_n26, ff26⟩ := ms_s hS25 hr_n25 (by decide) (by decide) hl_n25 he26 (ms_80 hS)
                  have fr26 := ff26 A _ fr25 (Nat.le_refl _)
                  refine qq_hp (hp2 := hp26) he26 ?_
                  show qq_Go _ hp26 (0) (0) 135 [(0, .int how), (1, .int kd), (2, .int q9), (3, .int u9)] [.ref hp.1] _ _
                  refine qq_goto (tgt := 139) dX7_become_135 (by decide) ?_
                  have ze : r_X7_become how kd q9 u9 S = some (upd (upd (upd (fun _ => 0) (0 : Int32).toNatClampNeg (how + 1)) (1 : Int32).toNatClampNeg q9) (2 : Int32).toNatClampNeg (0 : Int32)) := by
                    rw [r_X7_become, if_neg zc1, if_pos zc2, if_neg zc13, if_pos zc14, if_pos zc15, if_neg zc18, if_pos zc19, if_neg zc20]
                  exact qq_aret dX7_become_139 rfl (Or.inr ⟨_, rfl⟩) (Or.inr ⟨_, rfl⟩) ⟨hS26, fr26, Or.inr ⟨_, _, rfl, ze, hr_n26, hl_n26⟩⟩
            · refine qq_iconst (v := 3) dX7_become_81 (by decide) ?_
              refine qq_less (bc' := 0 + 1) (bs' := 0 + 3) (by omega) (by omega) ?_
              refine qq_newI (N' := 3) (ms := 3) dX7_become_82 (by decide) rfl (Nat.le_of_ble_eq_true rfl) (Nat.le_refl _) ?_ ka_int
              obtain ⟨hp27, he27⟩ : ∃ h, qq_nw hp (.inl (0, 3, .inl (fun _ => 0))) = h := ⟨_, rfl⟩
              obtain ⟨hS27, fr27, hr_n27, hl_n27⟩ := ms_n hS he27
              refine qq_hp (hp2 := hp27) he27 ?_
              show qq_Go _ hp27 (0) (0) 84 [(0, .int how), (1, .int kd), (2, .int q9), (3, .int u9)] [.ref hp.1] _ _
              refine qq_dup dX7_become_84 rfl ?_
              refine qq_iconst (v := 0) dX7_become_85 (by decide) ?_
              refine qq_iconst (v := 1) dX7_become_86 (by decide) ?_
              refine qq_iast dX7_become_87 hr_n27 (ms_80 hS) (vp_d (by decide)) ?_
              obtain ⟨hp28, he28⟩ : ∃ h : qq_H, (hp27.1, va_up hp27.2 hp.1 (.inl (0, 3, .inl (upd (fun _ => 0) (0 : Int32).toNatClampNeg (1 : Int32))))) = h := ⟨_, rfl⟩
              obtain ⟨hS28, hr_n28, hl_n28, ff28⟩ := ms_s hS27 hr_n27 (by decide) (by decide) hl_n27 he28 (ms_80 hS)
              have fr28 := ff28 A _ fr27 (Nat.le_refl _)
              refine qq_hp (hp2 := hp28) he28 ?_
              show qq_Go _ hp28 (0) (0) 88 [(0, .int how), (1, .int kd), (2, .int q9), (3, .int u9)] [.ref hp.1] _ _
              refine qq_dup dX7_become_88 rfl ?_
              refine qq_iconst (v := 1) dX7_become_89 (by decide) ?_
              refine qq_iconst (v := 0) dX7_become_90 (by decide) ?_
              refine qq_iast dX7_become_91 hr_n28 (ms_80 hS) (vp_d (by decide)) ?_
              obtain ⟨hp29, he29⟩ : ∃ h : qq_H, (hp28.1, va_up hp28.2 hp.1 (.inl (0, 3, .inl (upd (upd (fun _ => 0) (0 : Int32).toNatClampNeg (1 : Int32)) (1 : Int32).toNatClampNeg (0 : Int32))))) = h := ⟨_, rfl⟩
              obtain ⟨hS29, hr_n29, hl_n29, ff29⟩ := ms_s hS28 hr_n28 (by decide) (by decide) hl_n28 he29 (ms_80 hS)
              have fr29 := ff29 A _ fr28 (Nat.le_refl _)
              refine qq_hp (hp2 := hp29) he29 ?_
              show qq_Go _ hp29 (0) (0) 92 [(0, .int how), (1, .int kd), (2, .int q9), (3, .int u9)] [.ref hp.1] _ _
              refine qq_dup dX7_become_92 rfl ?_
              refine qq_iconst (v := 2) dX7_become_93 (by decide) ?_
              refine qq_iconst (v := 1) dX7_become_94 (by decide) ?_
              refine qq_iast dX7_become_95 hr_n29 (ms_80 hS) (vp_d (by decide)) ?_
              obtain ⟨hp30, he30⟩ : ∃ h : qq_H, (hp29.1, va_up hp29.2 hp.1 (.inl (0, 3, .inl (upd (upd (upd (fun _ => 0) (0 : Int32).toNatClampNeg (1 : Int32)) (1 : Int32).toNatClampNeg (0 : Int32)) (2 : Int32).toNatClampNeg (1 : Int32))))) = h := ⟨_, rfl⟩
              obtain ⟨hS30, hr_n30, hl_n30, ff30⟩ := ms_s hS29 hr_n29 (by decide) (by decide) hl_n29 he30 (ms_80 hS)
              have fr30 := ff30 A _ fr29 (Nat.le_refl _)
              refine qq_hp (hp2 := hp30) he30 ?_
              show qq_Go _ hp30 (0) (0) 96 [(0, .int how), (1, .int kd), (2, .int q9), (3, .int u9)] [.ref hp.1] _ _
              have ze : r_X7_become how kd q9 u9 S = some (upd (upd (upd (fun _ => 0) (0 : Int32).toNatClampNeg (1 : Int32)) (1 : Int32).toNatClampNeg (0 : Int32)) (2 : Int32).toNatClampNeg (1 : Int32)) := by
                rw [r_X7_become, if_neg zc1, if_pos zc2, if_neg zc13, if_pos zc14, if_pos zc15, if_pos zc18]
              exact qq_aret dX7_become_96 rfl (Or.inr ⟨_, rfl⟩) (Or.inr ⟨_, rfl⟩) ⟨hS30, fr30, Or.inr ⟨_, _, rfl, ze, hr_n30, hl_n30⟩⟩
      · refine qq_iload_n dX7_become_19 rfl 0 rfl ?_
        refine qq_iconst (v := 1) dX7_become_20 (by decide) ?_
        refine qq_icmp_ne (tgt := 42) dX7_become_21 (by decide) (fun zc21 => ?_) (fun zc21 => ?_)
        · refine qq_iconst (v := 3) dX7_become_42 (by decide) ?_
          refine qq_less (bc' := 0 + 1) (bs' := 0 + 3) (by omega) (by omega) ?_
          refine qq_newI (N' := 3) (ms := 3) dX7_become_43 (by decide) rfl (Nat.le_of_ble_eq_true rfl) (Nat.le_refl _) ?_ ka_int
          obtain ⟨hp31, he31⟩ : ∃ h, qq_nw hp (.inl (0, 3, .inl (fun _ => 0))) = h := ⟨_, rfl⟩
          obtain ⟨hS31, fr31, hr_n31, hl_n31⟩ := ms_n hS he31
          refine qq_hp (hp2 := hp31) he31 ?_
          show qq_Go _ hp31 (0) (0) 45 [(0, .int how), (1, .int kd), (2, .int q9), (3, .int u9)] [.ref hp.1] _ _
          refine qq_dup dX7_become_45 rfl ?_
          refine qq_iconst (v := 0) dX7_become_46 (by decide) ?_
          refine qq_iconst (v := 0) dX7_become_47 (by decide) ?_
          refine qq_iast dX7_become_48 hr_n31 (ms_80 hS) (vp_d (by decide)) ?_
          obtain ⟨hp32, he32⟩ : ∃ h : qq_H, (hp31.1, va_up hp31.2 hp.1 (.inl (0, 3, .inl (upd (fun _ => 0) (0 : Int32).toNatClampNeg (0 : Int32))))) = h := ⟨_, rfl⟩
          obtain ⟨hS32, hr_n32, hl_n32, ff32⟩ := ms_s hS31 hr_n31 (by decide) (by decide) hl_n31 he32 (ms_80 hS)
          have fr32 := ff32 A _ fr31 (Nat.le_refl _)
          refine qq_hp (hp2 := hp32) he32 ?_
          show qq_Go _ hp32 (0) (0) 49 [(0, .int how), (1, .int kd), (2, .int q9), (3, .int u9)] [.ref hp.1] _ _
          refine qq_dup dX7_become_49 rfl ?_
          refine qq_iconst (v := 1) dX7_become_50 (by decide) ?_
          refine qq_iconst (v := 0) dX7_become_51 (by decide) ?_
          refine qq_iast dX7_become_52 hr_n32 (ms_80 hS) (vp_d (by decide)) ?_
          obtain ⟨hp33, he33⟩ : ∃ h : qq_H, (hp32.1, va_up hp32.2 hp.1 (.inl (0, 3, .inl (upd (upd (fun _ => 0) (0 : Int32).toNatClampNeg (0 : Int32)) (1 : Int32).toNatClampNeg (0 : Int32))))) = h := ⟨_, rfl⟩
          obtain ⟨hS33, hr_n33, hl_n33, ff33⟩ := ms_s hS32 hr_n32 (by decide) (by decide) hl_n32 he33 (ms_80 hS)
          have fr33 := ff33 A _ fr32 (Nat.le_refl _)
          refine qq_hp (hp2 := hp33) he33 ?_
          show qq_Go _ hp33 (0) (0) 53 [(0, .int how), (1, .int kd), (2, .int q9), (3, .int u9)] [.ref hp.1] _ _
          refine qq_dup dX7_become_53 rfl ?_
          refine qq_iconst (v := 2) dX7_become_54 (by decide) ?_
          refine qq_iload_n dX7_become_55 rfl 3 rfl ?_
          refine qq_if_eq (tgt := 63) dX7_become_56 (by decide) (fun zc22 => ?_) (fun zc22 => ?_)
          · refine qq_iconst (v := 0) dX7_become_63 (by decide) ?_
            refine qq_iast dX7_become_64 hr_n33 (ms_80 hS) (vp_d (by decide)) ?_
            obtain ⟨hp34, he34⟩ : ∃ h : qq_H, (hp33.1, va_up hp33.2 hp.1 (.inl (0, 3, .inl (upd (upd (upd (fun _ => 0) (0 : Int32).toNatClampNeg (0 : Int32)) (1 : Int32).toNatClampNeg (0 : Int32)) (2 : Int32).toNatClampNeg (0 : Int32))))) = h := ⟨_, rfl⟩
            obtain ⟨hS34, hr_n34, hl_n34, ff34⟩ := ms_s hS33 hr_n33 (by decide) (by decide) hl_n33 he34 (ms_80 hS)
            have fr34 := ff34 A _ fr33 (Nat.le_refl _)
            refine qq_hp (hp2 := hp34) he34 ?_
            show qq_Go _ hp34 (0) (0) 65 [(0, .int how), (1, .int kd), (2, .int q9), (3, .int u9)] [.ref hp.1] _ _
            have ze : r_X7_become how kd q9 u9 S = some (upd (upd (upd (fun _ => 0) (0 : Int32).toNatClampNeg (0 : Int32)) (1 : Int32).toNatClampNeg (0 : Int32)) (2 : Int32).toNatClampNeg (0 : Int32)) := by
              rw [r_X7_become, if_neg zc1, if_pos zc2, if_pos zc13, if_neg zc21, if_pos zc22]
            exact qq_aret dX7_become_65 rfl (Or.inr ⟨_, rfl⟩) (Or.inr ⟨_, rfl⟩) ⟨hS34, fr34, Or.inr ⟨_, _, rfl, ze, hr_n34, hl_n34⟩⟩
          · refine qq_iconst (v := 1) dX7_become_59 (by decide) ?_
            refine qq_goto (tgt := 64) dX7_become_60 (by decide) ?_
            refine qq_iast dX7_become_64 hr_n33 (ms_80 hS) (vp_d (by decide)) ?_
            obtain ⟨hp35, he35⟩ : ∃ h : qq_H, (hp33.1, va_up hp33.2 hp.1 (.inl (0, 3, .inl (upd (upd (upd (fun _ => 0) (0 : Int32).toNatClampNeg (0 : Int32)) (1 : Int32).toNatClampNeg (0 : Int32)) (2 : Int32).toNatClampNeg (1 : Int32))))) = h := ⟨_, rfl⟩
            obtain ⟨hS35, hr_n35, hl_n35, ff35⟩ := ms_s hS33 hr_n33 (by decide) (by decide) hl_n33 he35 (ms_80 hS)
            have fr35 := ff35 A _ fr33 (Nat.le_refl _)
            refine qq_hp (hp2 := hp35) he35 ?_
            show qq_Go _ hp35 (0) (0) 65 [(0, .int how), (1, .int kd), (2, .int q9), (3, .int u9)] [.ref hp.1] _ _
            have ze : r_X7_become how kd q9 u9 S = some (upd (upd (upd (fun _ => 0) (0 : Int32).toNatClampNeg (0 : Int32)) (1 : Int32).toNatClampNeg (0 : Int32)) (2 : Int32).toNatClampNeg (1 : Int32)) := by
              rw [r_X7_become, if_neg zc1, if_pos zc2, if_pos zc13, if_neg zc21, if_neg zc22]
            exact qq_aret dX7_become_65 rfl (Or.inr ⟨_, rfl⟩) (Or.inr ⟨_, rfl⟩) ⟨hS35, fr35, Or.inr ⟨_, _, rfl, ze, hr_n35, hl_n35⟩⟩
        · refine qq_iconst (v := 3) dX7_become_24 (by decide) ?_
          refine qq_less (bc' := 0 + 1) (bs' := 0 + 3) (by omega) (by omega) ?_
          refine qq_newI (N' := 3) (ms := 3) dX7_become_25 (by decide) rfl (Nat.le_of_ble_eq_true rfl) (Nat.le_refl _) ?_ ka_int
          obtain ⟨hp36, he36⟩ : ∃ h, qq_nw hp (.inl (0, 3, .inl (fun _ => 0))) = h := ⟨_, rfl⟩
          obtain ⟨hS36, fr36, hr_n36, hl_n36⟩ := ms_n hS he36
          refine qq_hp (hp2 := hp36) he36 ?_
          show qq_Go _ hp36 (0) (0) 27 [(0, .int how), (1, .int kd), (2, .int q9), (3, .int u9)] [.ref hp.1] _ _
          refine qq_dup dX7_become_27 rfl ?_
          refine qq_iconst (v := 0) dX7_become_28 (by decide) ?_
          refine qq_iconst (v := 0) dX7_become_29 (by decide) ?_
          refine qq_iast dX7_become_30 hr_n36 (ms_80 hS) (vp_d (by decide)) ?_
          obtain ⟨hp37, he37⟩ : ∃ h : qq_H, (hp36.1, va_up hp36.2 hp.1 (.inl (0, 3, .inl (upd (fun _ => 0) (0 : Int32).toNatClampNeg (0 : Int32))))) = h := ⟨_, rfl⟩
          obtain ⟨hS37, hr_n37, hl_n37, ff37⟩ := ms_s hS36 hr_n36 (by decide) (by decide) hl_n36 he37 (ms_80 hS)
          have fr37 := ff37 A _ fr36 (Nat.le_refl _)
          refine qq_hp (hp2 := hp37) he37 ?_
          show qq_Go _ hp37 (0) (0) 31 [(0, .int how), (1, .int kd), (2, .int q9), (3, .int u9)] [.ref hp.1] _ _
          refine qq_dup dX7_become_31 rfl ?_
          refine qq_iconst (v := 1) dX7_become_32 (by decide) ?_
          refine qq_iconst (v := 4) dX7_become_33 (by decide) ?_
          refine qq_iast dX7_become_34 hr_n37 (ms_80 hS) (vp_d (by decide)) ?_
          obtain ⟨hp38, he38⟩ : ∃ h : qq_H, (hp37.1, va_up hp37.2 hp.1 (.inl (0, 3, .inl (upd (upd (fun _ => 0) (0 : Int32).toNatClampNeg (0 : Int32)) (1 : Int32).toNatClampNeg (4 : Int32))))) = h := ⟨_, rfl⟩
          obtain ⟨hS38, hr_n38, hl_n38, ff38⟩ := ms_s hS37 hr_n37 (by decide) (by decide) hl_n37 he38 (ms_80 hS)
          have fr38 := ff38 A _ fr37 (Nat.le_refl _)
          refine qq_hp (hp2 := hp38) he38 ?_
          show qq_Go _ hp38 (0) (0) 35 [(0, .int how), (1, .int kd), (2, .int q9), (3, .int u9)] [.ref hp.1] _ _
          refine qq_dup dX7_become_35 rfl ?_
          refine qq_iconst (v := 2) dX7_become_36 (by decide) ?_
          refine qq_iconst (v := 0) dX7_become_37 (by decide) ?_
          refine qq_iast dX7_become_38 hr_n38 (ms_80 hS) (vp_d (by decide)) ?_
          obtain ⟨hp39, he39⟩ : ∃ h : qq_H, (hp38.1, va_up hp38.2 hp.1 (.inl (0, 3, .inl (upd (upd (upd (fun _ => 0) (0 : Int32).toNatClampNeg (0 : Int32)) (1 : Int32).toNatClampNeg (4 : Int32)) (2 : Int32).toNatClampNeg (0 : Int32))))) = h := ⟨_, rfl⟩
          obtain ⟨hS39, hr_n39, hl_n39, ff39⟩ := ms_s hS38 hr_n38 (by decide) (by decide) hl_n38 he39 (ms_80 hS)
          have fr39 := ff39 A _ fr38 (Nat.le_refl _)
          refine qq_hp (hp2 := hp39) he39 ?_
          show qq_Go _ hp39 (0) (0) 39 [(0, .int how), (1, .int kd), (2, .int q9), (3, .int u9)] [.ref hp.1] _ _
          refine qq_goto (tgt := 65) dX7_become_39 (by decide) ?_
          have ze : r_X7_become how kd q9 u9 S = some (upd (upd (upd (fun _ => 0) (0 : Int32).toNatClampNeg (0 : Int32)) (1 : Int32).toNatClampNeg (4 : Int32)) (2 : Int32).toNatClampNeg (0 : Int32)) := by
            rw [r_X7_become, if_neg zc1, if_pos zc2, if_pos zc13, if_pos zc21]
          exact qq_aret dX7_become_65 rfl (Or.inr ⟨_, rfl⟩) (Or.inr ⟨_, rfl⟩) ⟨hS39, fr39, Or.inr ⟨_, _, rfl, ze, hr_n39, hl_n39⟩⟩
  · refine qq_iload_n dX7_become_5 rfl 0 rfl ?_
    refine qq_iload_n dX7_become_6 rfl 3 rfl ?_
    refine qq_less (bc' := 0 + 1) (bs' := 0 + 3) (by omega) (by omega) ?_
    refine qq_callS (bc := 0) (bs := 0) (mc := 1) (ms := 3) (as := [.int how, .int u9]) (rest := []) dX7_become_7 (mt_X7_ofEndless hp A S hS how u9 ) rfl kl_X7_144 ks_X7_ofEndless ki_X7 kc_X7_ofEndless kd_X7_ofEndless rfl (by decide) (by decide) (Nat.le_of_ble_eq_true rfl) (fun v hp40 hv _ _ => ?_) (fun E hp' zx _ _ => zx.elim)
    obtain ⟨hS40, fr40, hv⟩ := hv
    rcases hv with ⟨rfl, zo23⟩ | ⟨rj, fo, rfl, zo23, hr_o23, hl_o23⟩
    · show qq_Go _ hp40 (0) (0) 10 [(0, .int how), (1, .int kd), (2, .int q9), (3, .int u9)] [.null] _ _
      have ze : r_X7_become how kd q9 u9 S = none := by
        rw [r_X7_become, if_pos zc1, om_n zo23]
      exact qq_aret dX7_become_10 rfl (Or.inr ⟨_, rfl⟩) (Or.inl rfl) ⟨hS40, fr40, Or.inl ⟨rfl, ze⟩⟩
    · show qq_Go _ hp40 (0) (0) 10 [(0, .int how), (1, .int kd), (2, .int q9), (3, .int u9)] [.ref rj] _ _
      have ze : r_X7_become how kd q9 u9 S = some fo := by
        rw [r_X7_become, if_pos zc1, om_s zo23]
      exact qq_aret dX7_become_10 rfl (Or.inr ⟨_, rfl⟩) (Or.inr ⟨_, rfl⟩) ⟨hS40, fr40, Or.inr ⟨_, _, rfl, ze, hr_o23, hl_o23⟩⟩
def r_X7_isBack  (f : (Nat → Int32)) (S : sM) : Int32 := if (f (0 : Int32).toNatClampNeg) = 5 then 1 else 0
theorem bz_X7_isBack  (f : (Nat → Int32)) (S : sM) : r_X7_isBack f S = 0 ∨ r_X7_isBack f S = 1 := by
  unfold r_X7_isBack
  exact (qq_i01 (Or.inr rfl) (Or.inl rfl))
set_option maxRecDepth 4000 in
theorem mt_X7_isBack (hp : qq_H) (A : qA) (S : sM) (hS : ms_M A S hp)  (r1 : Nat) (f : (Nat → Int32)) (hr_r1 : hp.2 r1 = .inl (0, 3, .inl f)) (hl_r1 : r1 < hp.1)  : qq_Mt mX7_isBack [.ref r1] hp 0 0 (fun v hp' => v = some (.int (r_X7_isBack f S)) ∧ hp = hp') (fun _ _ => False) := by
  refine qq_met pn_X7 (Nat.le_of_ble_eq_true rfl) (Nat.le_of_ble_eq_true rfl) kc_X7_isBack ?_
  show qq_Go _ hp 0 0 0 [(0, .ref r1)] [] _ _
  refine qq_aload_n dX7_isBack_0 rfl 0 rfl ?_
  refine qq_ifnull dX7_isBack_1 ?_
  refine qq_aload_n dX7_isBack_4 rfl 0 rfl ?_
  refine qq_iconst (v := 0) dX7_isBack_5 (by decide) ?_
  refine qq_iald dX7_isBack_6 hr_r1 (vp_d (by decide)) ?_
  refine qq_iconst (v := 5) dX7_isBack_7 (by decide) ?_
  refine qq_icmp_ne (tgt := 15) dX7_isBack_8 (by decide) (fun zc1 => ?_) (fun zc1 => ?_)
  · refine qq_iconst (v := 0) dX7_isBack_15 (by decide) ?_
    have ze : r_X7_isBack f S = 0 := by
      rw [r_X7_isBack, if_neg zc1]
    exact qq_iret dX7_isBack_16 rfl rfl ⟨by rw [ze], rfl⟩
  · refine qq_iconst (v := 1) dX7_isBack_11 (by decide) ?_
    refine qq_goto (tgt := 16) dX7_isBack_12 (by decide) ?_
    have ze : r_X7_isBack f S = 1 := by
      rw [r_X7_isBack, if_pos zc1]
    exact qq_iret dX7_isBack_16 rfl rfl ⟨by rw [ze], rfl⟩
def r_X7_isBackN   (S : sM) : Int32 := 0
theorem bz_X7_isBackN   (S : sM) : r_X7_isBackN S = 0 ∨ r_X7_isBackN S = 1 := by
  unfold r_X7_isBackN
  exact (Or.inl rfl)
set_option maxRecDepth 4000 in
theorem mt_X7_isBackN (hp : qq_H) (A : qA) (S : sM) (hS : ms_M A S hp)       : qq_Mt mX7_isBack [.null] hp 0 0 (fun v hp' => v = some (.int (r_X7_isBackN S)) ∧ hp = hp') (fun _ _ => False) := by
  refine qq_met pn_X7 (Nat.le_of_ble_eq_true rfl) (Nat.le_of_ble_eq_true rfl) kc_X7_isBack ?_
  show qq_Go _ hp 0 0 0 [(0, .null)] [] _ _
  refine qq_aload_nN dX7_isBack_0 rfl 0 rfl ?_
  refine qq_ifnullN (tgt := 15) dX7_isBack_1 (by decide) ?_
  refine qq_iconst (v := 0) dX7_isBack_15 (by decide) ?_
  have ze : r_X7_isBackN S = 0 := by
    rw [r_X7_isBackN]
  exact qq_iret dX7_isBack_16 rfl rfl ⟨by rw [ze], rfl⟩
def r_X7_becomes (how : Int32) (cell : Int32)  (S : sM) : Option qR := om (r_X7_become how (S.1 cell.toNatClampNeg) (S.2.1 cell.toNatClampNeg) (S.2.2.1 cell.toNatClampNeg) S) (if (r_X7_isBackN S) = 0 then none else none) (fun fo => if (r_X7_isBack fo S) = 0 then some fo else if (-32) ≤ (fo (1 : Int32).toNatClampNeg) then some fo else none)
set_option maxRecDepth 4000 in
theorem mt_X7_becomes (hp : qq_H) (A : qA) (S : sM) (hS : ms_M A S hp) (how : Int32) (cell : Int32)     (zw : vp_in how 4) (zcell : vp_in cell 8) : qq_Mt mX7_becomes [.ref 84, .int how, .int cell] hp 1 3 (fun v hp' => ms_M A S hp' ∧ fr A hp hp' ∧ ((v = some .null ∧ r_X7_becomes how cell S = none) ∨ ∃ (r : Nat) (f : qR), v = some (.ref r) ∧ r_X7_becomes how cell S = some f ∧ hp'.2 r = .inl (0, 3, .inl f) ∧ r < hp'.1)) (fun _ _ => False) := by
  refine qq_met pn_X7 (Nat.le_of_ble_eq_true rfl) (Nat.le_of_ble_eq_true rfl) kc_X7_becomes ?_
  show qq_Go _ hp 1 3 0 [(0, .ref 84), (1, .int how), (2, .int cell)] [] _ _
  refine qq_iload_n dX7_becomes_0 rfl 1 rfl ?_
  refine qq_aload_n dX7_becomes_1 rfl 0 rfl ?_
  refine mx_get hS dX7_becomes_2 4 (by decide) rfl kl_X7_28 ?_
  refine qq_iload_n dX7_becomes_5 rfl 2 rfl ?_
  refine qq_iald dX7_becomes_6 hS.2.2.2.1 zcell ?_
  refine qq_aload_n dX7_becomes_7 rfl 0 rfl ?_
  refine mx_get hS dX7_becomes_8 5 (by decide) rfl kl_X7_31 ?_
  refine qq_iload_n dX7_becomes_11 rfl 2 rfl ?_
  refine qq_iald dX7_becomes_12 hS.2.2.2.2.1 zcell ?_
  refine qq_aload_n dX7_becomes_13 rfl 0 rfl ?_
  refine mx_get hS dX7_becomes_14 6 (by decide) rfl kl_X7_34 ?_
  refine qq_iload_n dX7_becomes_17 rfl 2 rfl ?_
  refine qq_zald dX7_becomes_18 hS.2.2.2.2.2.1 zcell ?_
  refine qq_less (bc' := 0 + 1) (bs' := 0 + 3) (by omega) (by omega) ?_
  refine qq_callS (bc := 0) (bs := 0) (mc := 1) (ms := 3) (as := [.int how, .int (S.1 cell.toNatClampNeg), .int (S.2.1 cell.toNatClampNeg), .int (S.2.2.1 cell.toNatClampNeg)]) (rest := []) dX7_becomes_19 (mt_X7_become hp A S hS how (S.1 cell.toNatClampNeg) (S.2.1 cell.toNatClampNeg) (S.2.2.1 cell.toNatClampNeg) zw) rfl kl_X7_154 ks_X7_become ki_X7 kc_X7_become kd_X7_become rfl (by decide) (by decide) (Nat.le_of_ble_eq_true rfl) (fun v hp1 hv _ _ => ?_) (fun E hp' zx _ _ => zx.elim)
  obtain ⟨hS1, fr1, hv⟩ := hv
  rcases hv with ⟨rfl, zo1⟩ | ⟨rj, fo, rfl, zo1, hr_o1, hl_o1⟩
  · show qq_Go _ hp1 (0) (0) 22 [(0, .ref 84), (1, .int how), (2, .int cell)] [.null] _ _
    refine qq_astore_nN (loc' := [(0, .ref 84), (1, .int how), (2, .int cell), (3, .null)]) dX7_becomes_22 rfl [1, 2, 3, 0] (Nat.le_of_ble_eq_true rfl) rfl ?_
    refine qq_aload_nN dX7_becomes_23 rfl 3 rfl ?_
    refine qq_less (bc' := 0 + 0) (bs' := 0 + 0) (by omega) (by omega) ?_
    refine qq_callS (bc := 0) (bs := 0) (mc := 0) (ms := 0) (as := [.null]) (rest := []) dX7_becomes_24 (mt_X7_isBackN hp1 A S hS1 ) rfl kl_X7_158 ks_X7_isBack ki_X7 kc_X7_isBack kd_X7_isBack rfl (by decide) (by decide) (Nat.le_of_ble_eq_true rfl) (fun v hp' hv _ _ => ?_) (fun E hp' zx _ _ => zx.elim)
    obtain ⟨rfl, rfl⟩ := hv
    show qq_Go _ hp1 (0) (0) 27 [(0, .ref 84), (1, .int how), (2, .int cell), (3, .null)] [.int (r_X7_isBackN S)] _ _
    refine qq_if_eq (tgt := 42) dX7_becomes_27 (by decide) (fun zc2 => ?_) (fun zc2 => ?_)
    · refine qq_aload_nN dX7_becomes_42 rfl 3 rfl ?_
      have ze : r_X7_becomes how cell S = none := by
        rw [r_X7_becomes, om_n zo1, if_pos zc2]
      exact qq_aret dX7_becomes_43 rfl (Or.inr ⟨_, rfl⟩) (Or.inl rfl) ⟨hS1, fr1, Or.inl ⟨rfl, ze⟩⟩
    · exact absurd rfl zc2
  · show qq_Go _ hp1 (0) (0) 22 [(0, .ref 84), (1, .int how), (2, .int cell)] [.ref rj] _ _
    refine qq_astore_n (loc' := [(0, .ref 84), (1, .int how), (2, .int cell), (3, .ref rj)]) dX7_becomes_22 rfl [1, 2, 3, 0] (Nat.le_of_ble_eq_true rfl) rfl ?_
    refine qq_aload_n dX7_becomes_23 rfl 3 rfl ?_
    refine qq_less (bc' := 0 + 0) (bs' := 0 + 0) (by omega) (by omega) ?_
    refine qq_callS (bc := 0) (bs := 0) (mc := 0) (ms := 0) (as := [.ref rj]) (rest := []) dX7_becomes_24 (mt_X7_isBack hp1 A S hS1 rj fo hr_o1 hl_o1 ) rfl kl_X7_158 ks_X7_isBack ki_X7 kc_X7_isBack kd_X7_isBack rfl (by decide) (by decide) (Nat.le_of_ble_eq_true rfl) (fun v hp' hv _ _ => ?_) (fun E hp' zx _ _ => zx.elim)
    obtain ⟨rfl, rfl⟩ := hv
    show qq_Go _ hp1 (0) (0) 27 [(0, .ref 84), (1, .int how), (2, .int cell), (3, .ref rj)] [.int (r_X7_isBack fo S)] _ _
    refine qq_if_eq (tgt := 42) dX7_becomes_27 (by decide) (fun zc3 => ?_) (fun zc3 => ?_)
    · refine qq_aload_n dX7_becomes_42 rfl 3 rfl ?_
      have ze : r_X7_becomes how cell S = some fo := by
        rw [r_X7_becomes, om_s zo1, if_pos zc3]
      exact qq_aret dX7_becomes_43 rfl (Or.inr ⟨_, rfl⟩) (Or.inr ⟨_, rfl⟩) ⟨hS1, fr1, Or.inr ⟨_, _, rfl, ze, hr_o1, hl_o1⟩⟩
    · refine qq_aload_n dX7_becomes_30 rfl 3 rfl ?_
      refine qq_iconst (v := 1) dX7_becomes_31 (by decide) ?_
      refine qq_iald dX7_becomes_32 hr_o1 (vp_d (by decide)) ?_
      refine qq_bipush (v := (-32)) dX7_becomes_33 (by decide) ?_
      refine qq_icmp_ge (tgt := 42) dX7_becomes_35 (by decide) (fun zc4 => ?_) (fun zc4 => ?_)
      · refine qq_aload_n dX7_becomes_42 rfl 3 rfl ?_
        have ze : r_X7_becomes how cell S = some fo := by
          rw [r_X7_becomes, om_s zo1, if_neg zc3, if_pos zc4]
        exact qq_aret dX7_becomes_43 rfl (Or.inr ⟨_, rfl⟩) (Or.inr ⟨_, rfl⟩) ⟨hS1, fr1, Or.inr ⟨_, _, rfl, ze, hr_o1, hl_o1⟩⟩
      · refine qq_null dX7_becomes_38 ?_
        refine qq_goto (tgt := 43) dX7_becomes_39 (by decide) ?_
        have ze : r_X7_becomes how cell S = none := by
          rw [r_X7_becomes, om_s zo1, if_neg zc3, if_neg zc4]
        exact qq_aret dX7_becomes_43 rfl (Or.inr ⟨_, rfl⟩) (Or.inl rfl) ⟨hS1, fr1, Or.inl ⟨rfl, ze⟩⟩
def r_X7_made (how : Int32) (cell : Int32) (into : Int32)  (S : sM) : Int32 × sM := if (f_X7_isNoCell cell) = 0 then if (f_X7_isNoCell into) = 0 then if ((r_X7_isRefused (0 : Int32) (0 : Int32) S).1) = 0 then om (r_X7_becomes how cell ((r_X7_isRefused (0 : Int32) (0 : Int32) S).2)) (((r_X7_refused ((r_X7_isRefused (0 : Int32) (0 : Int32) S).2)).1, (r_X7_refused ((r_X7_isRefused (0 : Int32) (0 : Int32) S).2)).2)) (fun fo => if (fo (2 : Int32).toNatClampNeg) = 1 then ((r_X7_come into (fo (0 : Int32).toNatClampNeg) (fo (1 : Int32).toNatClampNeg) (1 : Int32) ((r_X7_isRefused (0 : Int32) (0 : Int32) S).2)).1, (r_X7_come into (fo (0 : Int32).toNatClampNeg) (fo (1 : Int32).toNatClampNeg) (1 : Int32) ((r_X7_isRefused (0 : Int32) (0 : Int32) S).2)).2) else ((r_X7_come into (fo (0 : Int32).toNatClampNeg) (fo (1 : Int32).toNatClampNeg) (0 : Int32) ((r_X7_isRefused (0 : Int32) (0 : Int32) S).2)).1, (r_X7_come into (fo (0 : Int32).toNatClampNeg) (fo (1 : Int32).toNatClampNeg) (0 : Int32) ((r_X7_isRefused (0 : Int32) (0 : Int32) S).2)).2)) else (0, (r_X7_isRefused (0 : Int32) (0 : Int32) S).2) else if ((r_X7_isRefused (1 : Int32) (0 : Int32) S).1) = 0 then (0, (r_X7_isRefused (1 : Int32) (0 : Int32) S).2) else (0, (r_X7_isRefused (1 : Int32) (0 : Int32) S).2) else if ((r_X7_isRefused (1 : Int32) (0 : Int32) S).1) = 0 then (0, (r_X7_isRefused (1 : Int32) (0 : Int32) S).2) else (0, (r_X7_isRefused (1 : Int32) (0 : Int32) S).2)
set_option maxRecDepth 4000 in
theorem mt_X7_made (hp : qq_H) (A : qA) (S : sM) (hS : ms_M A S hp) (how : Int32) (cell : Int32) (into : Int32)     (zw : vp_in how 4) : qq_Mt mX7_made [.ref 84, .int how, .int cell, .int into] hp 1 3 (fun v hp' => v = some (.int ((r_X7_made how cell into S).1)) ∧ ms_M A ((r_X7_made how cell into S).2) hp' ∧ fr A hp hp') (fun _ _ => False) := by
  refine qq_met pn_X7 (Nat.le_of_ble_eq_true rfl) (Nat.le_of_ble_eq_true rfl) kc_X7_made ?_
  show qq_Go _ hp 1 3 0 [(0, .ref 84), (1, .int how), (2, .int cell), (3, .int into)] [] _ _
  refine qq_aload_n dX7_made_0 rfl 0 rfl ?_
  refine qq_iload_n dX7_made_1 rfl 2 rfl ?_
  refine qq_less (bc' := 1 + 0) (bs' := 3 + 0) (by omega) (by omega) ?_
  refine qq_callS (bc := 1) (bs := 3) (mc := 0) (ms := 0) (as := [.int cell]) (rest := [.ref 84]) dX7_made_2 (mt_X7_isNoCell hp cell) rfl kl_X7_123 ks_X7_isNoCell ki_X7 kc_X7_isNoCell kd_X7_isNoCell rfl (by decide) (by decide) (Nat.le_of_ble_eq_true rfl) (fun v hp' hv _ _ => ?_) (fun E hp' zx _ _ => zx.elim)
  obtain ⟨rfl, rfl⟩ := hv
  show qq_Go _ hp (1) (3) 5 [(0, .ref 84), (1, .int how), (2, .int cell), (3, .int into)] [.int (f_X7_isNoCell cell), .ref 84] _ _
  refine qq_if_ne (tgt := 15) dX7_made_5 (by decide) (fun zc1 => ?_) (fun zc1 => ?_)
  · refine qq_iconst (v := 1) dX7_made_15 (by decide) ?_
    refine qq_goto (tgt := 20) dX7_made_16 (by decide) ?_
    refine qq_iconst (v := 0) dX7_made_20 (by decide) ?_
    refine qq_less (bc' := 1 + 0) (bs' := 3 + 0) (by omega) (by omega) ?_
    refine qq_callV (bc := 1) (bs := 3) (mc := 0) (ms := 0) (o := 84) (ci := 4) (N := 11) (T := TX7) (as := [.int 1, .int 0]) (rest := []) dX7_made_21 hS.2.2.1 (by decide) rfl (mt_X7_isRefused hp A S hS (1 : Int32) (0 : Int32) ) rfl kl_X7_126 kn_X7_isRefused ke_X7_isRefused ki_X7 kc_X7_isRefused kd_X7_isRefused rfl (by decide) (by decide) (Nat.le_of_ble_eq_true rfl) (fun v hp1 hv _ _ => ?_) (fun E hp' zx _ _ => zx.elim)
    obtain ⟨rfl, hS1, fr1⟩ := hv
    show qq_Go _ hp1 (1) (3) 24 [(0, .ref 84), (1, .int how), (2, .int cell), (3, .int into)] [.int ((r_X7_isRefused (1 : Int32) (0 : Int32) S).1)] _ _
    refine qq_if_eq (tgt := 29) dX7_made_24 (by decide) (fun zc2 => ?_) (fun zc2 => ?_)
    · exact absurd zc2 qx_1
    · refine qq_iconst (v := 0) dX7_made_27 (by decide) ?_
      have ze : r_X7_made how cell into S = (0, (r_X7_isRefused (1 : Int32) (0 : Int32) S).2) := by
        rw [r_X7_made, if_neg zc1, if_neg zc2]
      exact qq_iret dX7_made_28 rfl rfl ⟨by rw [ze], by rw [ze]; first | exact ms_pr hS1 | exact hS1, fr1⟩
  · have zv1 := qx_cell zc1
    refine qq_iload_n dX7_made_8 rfl 3 rfl ?_
    refine qq_less (bc' := 1 + 0) (bs' := 3 + 0) (by omega) (by omega) ?_
    refine qq_callS (bc := 1) (bs := 3) (mc := 0) (ms := 0) (as := [.int into]) (rest := [.ref 84]) dX7_made_9 (mt_X7_isNoCell hp into) rfl kl_X7_123 ks_X7_isNoCell ki_X7 kc_X7_isNoCell kd_X7_isNoCell rfl (by decide) (by decide) (Nat.le_of_ble_eq_true rfl) (fun v hp' hv _ _ => ?_) (fun E hp' zx _ _ => zx.elim)
    obtain ⟨rfl, rfl⟩ := hv
    show qq_Go _ hp (1) (3) 12 [(0, .ref 84), (1, .int how), (2, .int cell), (3, .int into)] [.int (f_X7_isNoCell into), .ref 84] _ _
    refine qq_if_eq (tgt := 19) dX7_made_12 (by decide) (fun zc3 => ?_) (fun zc3 => ?_)
    · have zv2 := qx_cell zc3
      refine qq_iconst (v := 0) dX7_made_19 (by decide) ?_
      refine qq_iconst (v := 0) dX7_made_20 (by decide) ?_
      refine qq_less (bc' := 1 + 0) (bs' := 3 + 0) (by omega) (by omega) ?_
      refine qq_callV (bc := 1) (bs := 3) (mc := 0) (ms := 0) (o := 84) (ci := 4) (N := 11) (T := TX7) (as := [.int 0, .int 0]) (rest := []) dX7_made_21 hS.2.2.1 (by decide) rfl (mt_X7_isRefused hp A S hS (0 : Int32) (0 : Int32) ) rfl kl_X7_126 kn_X7_isRefused ke_X7_isRefused ki_X7 kc_X7_isRefused kd_X7_isRefused rfl (by decide) (by decide) (Nat.le_of_ble_eq_true rfl) (fun v hp2 hv _ _ => ?_) (fun E hp' zx _ _ => zx.elim)
      obtain ⟨rfl, hS2, fr2⟩ := hv
      show qq_Go _ hp2 (1) (3) 24 [(0, .ref 84), (1, .int how), (2, .int cell), (3, .int into)] [.int ((r_X7_isRefused (0 : Int32) (0 : Int32) S).1)] _ _
      refine qq_if_eq (tgt := 29) dX7_made_24 (by decide) (fun zc4 => ?_) (fun zc4 => ?_)
      · refine qq_aload_n dX7_made_29 rfl 0 rfl ?_
        refine qq_iload_n dX7_made_30 rfl 1 rfl ?_
        refine qq_iload_n dX7_made_31 rfl 2 rfl ?_
        refine qq_less (bc' := 0 + 1) (bs' := 0 + 3) (by omega) (by omega) ?_
        refine qq_callV (bc := 0) (bs := 0) (mc := 1) (ms := 3) (o := 84) (ci := 4) (N := 11) (T := TX7) (as := [.int how, .int cell]) (rest := []) dX7_made_32 hS2.2.2.1 (by decide) rfl (mt_X7_becomes hp2 A ((r_X7_isRefused (0 : Int32) (0 : Int32) S).2) hS2 how cell zw zv1) rfl kl_X7_161 kn_X7_becomes ke_X7_becomes ki_X7 kc_X7_becomes kd_X7_becomes rfl (by decide) (by decide) (Nat.le_of_ble_eq_true rfl) (fun v hp3 hv _ _ => ?_) (fun E hp' zx _ _ => zx.elim)
        obtain ⟨hS3, fr3, hv⟩ := hv
        rcases hv with ⟨rfl, zo5⟩ | ⟨rj, fo, rfl, zo5, hr_o5, hl_o5⟩
        · show qq_Go _ hp3 (0) (0) 35 [(0, .ref 84), (1, .int how), (2, .int cell), (3, .int into)] [.null] _ _
          refine qq_astoreN (loc' := [(0, .ref 84), (1, .int how), (2, .int cell), (3, .int into), (4, .null)]) dX7_made_35 [1, 2, 3, 4, 0] (Nat.le_of_ble_eq_true rfl) rfl ?_
          refine qq_aloadN dX7_made_37 4 rfl ?_
          refine qq_ifnonnullN dX7_made_39 ?_
          refine qq_aload_n dX7_made_42 rfl 0 rfl ?_
          refine qq_less (bc' := 0 + 0) (bs' := 0 + 0) (by omega) (by omega) ?_
          refine qq_callV (bc := 0) (bs := 0) (mc := 0) (ms := 0) (o := 84) (ci := 4) (N := 11) (T := TX7) (as := []) (rest := []) dX7_made_43 hS3.2.2.1 (by decide) rfl (mt_X7_refused hp3 A ((r_X7_isRefused (0 : Int32) (0 : Int32) S).2) hS3 ) rfl kl_X7_134 kn_X7_refused ke_X7_refused ki_X7 kc_X7_refused kd_X7_refused rfl (by decide) (by decide) (Nat.le_of_ble_eq_true rfl) (fun v hp4 hv _ _ => ?_) (fun E hp' zx _ _ => zx.elim)
          obtain ⟨rfl, hS4, fr4⟩ := hv
          show qq_Go _ hp4 (0) (0) 46 [(0, .ref 84), (1, .int how), (2, .int cell), (3, .int into), (4, .null)] [.int ((r_X7_refused ((r_X7_isRefused (0 : Int32) (0 : Int32) S).2)).1)] _ _
          refine qq_goto (tgt := 75) dX7_made_46 (by decide) ?_
          have ze : r_X7_made how cell into S = ((r_X7_refused ((r_X7_isRefused (0 : Int32) (0 : Int32) S).2)).1, (r_X7_refused ((r_X7_isRefused (0 : Int32) (0 : Int32) S).2)).2) := by
            rw [r_X7_made, if_pos zc1, if_pos zc3, if_pos zc4, om_n zo5]
          exact qq_iret dX7_made_75 rfl rfl ⟨by rw [ze], by rw [ze]; first | exact ms_pr hS4 | exact hS4, (fr_t (fr_t fr2 fr3) fr4)⟩
        · show qq_Go _ hp3 (0) (0) 35 [(0, .ref 84), (1, .int how), (2, .int cell), (3, .int into)] [.ref rj] _ _
          refine qq_astore (loc' := [(0, .ref 84), (1, .int how), (2, .int cell), (3, .int into), (4, .ref rj)]) dX7_made_35 [1, 2, 3, 4, 0] (Nat.le_of_ble_eq_true rfl) rfl ?_
          refine qq_aload dX7_made_37 4 rfl ?_
          refine qq_ifnonnull (tgt := 49) dX7_made_39 (by decide) ?_
          refine qq_aload_n dX7_made_49 rfl 0 rfl ?_
          refine qq_iload_n dX7_made_50 rfl 3 rfl ?_
          refine qq_aload dX7_made_51 4 rfl ?_
          refine qq_iconst (v := 0) dX7_made_53 (by decide) ?_
          refine qq_iald dX7_made_54 hr_o5 (vp_d (by decide)) ?_
          refine qq_aload dX7_made_55 4 rfl ?_
          refine qq_iconst (v := 1) dX7_made_57 (by decide) ?_
          refine qq_iald dX7_made_58 hr_o5 (vp_d (by decide)) ?_
          refine qq_aload dX7_made_59 4 rfl ?_
          refine qq_iconst (v := 2) dX7_made_61 (by decide) ?_
          refine qq_iald dX7_made_62 hr_o5 (vp_d (by decide)) ?_
          refine qq_iconst (v := 1) dX7_made_63 (by decide) ?_
          refine qq_icmp_ne (tgt := 71) dX7_made_64 (by decide) (fun zc6 => ?_) (fun zc6 => ?_)
          · refine qq_iconst (v := 0) dX7_made_71 (by decide) ?_
            refine qq_less (bc' := 0 + 0) (bs' := 0 + 0) (by omega) (by omega) ?_
            refine qq_callV (bc := 0) (bs := 0) (mc := 0) (ms := 0) (o := 84) (ci := 4) (N := 11) (T := TX7) (as := [.int into, .int (fo (0 : Int32).toNatClampNeg), .int (fo (1 : Int32).toNatClampNeg), .int 0]) (rest := []) dX7_made_72 hS3.2.2.1 (by decide) rfl (mt_X7_come hp3 A ((r_X7_isRefused (0 : Int32) (0 : Int32) S).2) hS3 into (fo (0 : Int32).toNatClampNeg) (fo (1 : Int32).toNatClampNeg) (0 : Int32) zv2) rfl kl_X7_130 kn_X7_come ke_X7_come ki_X7 kc_X7_come kd_X7_come rfl (by decide) (by decide) (Nat.le_of_ble_eq_true rfl) (fun v hp5 hv _ _ => ?_) (fun E hp' zx _ _ => zx.elim)
            obtain ⟨rfl, hS5, fr5⟩ := hv
            have hr_4 := fr_w fr5 hS3 hl_o5 hr_o5 (by decide)
            have hl_4 := fr_l fr5 hl_o5
            show qq_Go _ hp5 (0) (0) 75 [(0, .ref 84), (1, .int how), (2, .int cell), (3, .int into), (4, .ref rj)] [.int ((r_X7_come into (fo (0 : Int32).toNatClampNeg) (fo (1 : Int32).toNatClampNeg) (0 : Int32) ((r_X7_isRefused (0 : Int32) (0 : Int32) S).2)).1)] _ _
            have ze : r_X7_made how cell into S = ((r_X7_come into (fo (0 : Int32).toNatClampNeg) (fo (1 : Int32).toNatClampNeg) (0 : Int32) ((r_X7_isRefused (0 : Int32) (0 : Int32) S).2)).1, (r_X7_come into (fo (0 : Int32).toNatClampNeg) (fo (1 : Int32).toNatClampNeg) (0 : Int32) ((r_X7_isRefused (0 : Int32) (0 : Int32) S).2)).2) := by
              rw [r_X7_made, if_pos zc1, if_pos zc3, if_pos zc4, om_s zo5, if_neg zc6]
            exact qq_iret dX7_made_75 rfl rfl ⟨by rw [ze], by rw [ze]; first | exact ms_pr hS5 | exact hS5, (fr_t (fr_t fr2 fr3) fr5)⟩
          · refine qq_iconst (v := 1) dX7_made_67 (by decide) ?_
            refine qq_goto (tgt := 72) dX7_made_68 (by decide) ?_
            refine qq_less (bc' := 0 + 0) (bs' := 0 + 0) (by omega) (by omega) ?_
            refine qq_callV (bc := 0) (bs := 0) (mc := 0) (ms := 0) (o := 84) (ci := 4) (N := 11) (T := TX7) (as := [.int into, .int (fo (0 : Int32).toNatClampNeg), .int (fo (1 : Int32).toNatClampNeg), .int 1]) (rest := []) dX7_made_72 hS3.2.2.1 (by decide) rfl (mt_X7_come hp3 A ((r_X7_isRefused (0 : Int32) (0 : Int32) S).2) hS3 into (fo (0 : Int32).toNatClampNeg) (fo (1 : Int32).toNatClampNeg) (1 : Int32) zv2) rfl kl_X7_130 kn_X7_come ke_X7_come ki_X7 kc_X7_come kd_X7_come rfl (by decide) (by decide) (Nat.le_of_ble_eq_true rfl) (fun v hp6 hv _ _ => ?_) (fun E hp' zx _ _ => zx.elim)
            obtain ⟨rfl, hS6, fr6⟩ := hv
            have hr_5 := fr_w fr6 hS3 hl_o5 hr_o5 (by decide)
            have hl_5 := fr_l fr6 hl_o5
            show qq_Go _ hp6 (0) (0) 75 [(0, .ref 84), (1, .int how), (2, .int cell), (3, .int into), (4, .ref rj)] [.int ((r_X7_come into (fo (0 : Int32).toNatClampNeg) (fo (1 : Int32).toNatClampNeg) (1 : Int32) ((r_X7_isRefused (0 : Int32) (0 : Int32) S).2)).1)] _ _
            have ze : r_X7_made how cell into S = ((r_X7_come into (fo (0 : Int32).toNatClampNeg) (fo (1 : Int32).toNatClampNeg) (1 : Int32) ((r_X7_isRefused (0 : Int32) (0 : Int32) S).2)).1, (r_X7_come into (fo (0 : Int32).toNatClampNeg) (fo (1 : Int32).toNatClampNeg) (1 : Int32) ((r_X7_isRefused (0 : Int32) (0 : Int32) S).2)).2) := by
              rw [r_X7_made, if_pos zc1, if_pos zc3, if_pos zc4, om_s zo5, if_pos zc6]
            exact qq_iret dX7_made_75 rfl rfl ⟨by rw [ze], by rw [ze]; first | exact ms_pr hS6 | exact hS6, (fr_t (fr_t fr2 fr3) fr6)⟩
      · exact absurd qx_0 zc4
    · refine qq_iconst (v := 1) dX7_made_15 (by decide) ?_
      refine qq_goto (tgt := 20) dX7_made_16 (by decide) ?_
      refine qq_iconst (v := 0) dX7_made_20 (by decide) ?_
      refine qq_less (bc' := 1 + 0) (bs' := 3 + 0) (by omega) (by omega) ?_
      refine qq_callV (bc := 1) (bs := 3) (mc := 0) (ms := 0) (o := 84) (ci := 4) (N := 11) (T := TX7) (as := [.int 1, .int 0]) (rest := []) dX7_made_21 hS.2.2.1 (by decide) rfl (mt_X7_isRefused hp A S hS (1 : Int32) (0 : Int32) ) rfl kl_X7_126 kn_X7_isRefused ke_X7_isRefused ki_X7 kc_X7_isRefused kd_X7_isRefused rfl (by decide) (by decide) (Nat.le_of_ble_eq_true rfl) (fun v hp7 hv _ _ => ?_) (fun E hp' zx _ _ => zx.elim)
      obtain ⟨rfl, hS7, fr7⟩ := hv
      show qq_Go _ hp7 (1) (3) 24 [(0, .ref 84), (1, .int how), (2, .int cell), (3, .int into)] [.int ((r_X7_isRefused (1 : Int32) (0 : Int32) S).1)] _ _
      refine qq_if_eq (tgt := 29) dX7_made_24 (by decide) (fun zc7 => ?_) (fun zc7 => ?_)
      · exact absurd zc7 qx_1
      · refine qq_iconst (v := 0) dX7_made_27 (by decide) ?_
        have ze : r_X7_made how cell into S = (0, (r_X7_isRefused (1 : Int32) (0 : Int32) S).2) := by
          rw [r_X7_made, if_pos zc1, if_neg zc3, if_neg zc7]
        exact qq_iret dX7_made_28 rfl rfl ⟨by rw [ze], by rw [ze]; first | exact ms_pr hS7 | exact hS7, fr7⟩
def r_X7_power (cell : Int32) (into : Int32)  (S : sM) : Int32 × sM := ((r_X7_made (1 : Int32) cell into S).1, (r_X7_made (1 : Int32) cell into S).2)
set_option maxRecDepth 4000 in
theorem mt_X7_power (hp : qq_H) (A : qA) (S : sM) (hS : ms_M A S hp) (cell : Int32) (into : Int32)      : qq_Mt mX7_power [.ref 84, .int cell, .int into] hp 1 3 (fun v hp' => v = some (.int ((r_X7_power cell into S).1)) ∧ ms_M A ((r_X7_power cell into S).2) hp' ∧ fr A hp hp') (fun _ _ => False) := by
  refine qq_met pn_X7 (Nat.le_of_ble_eq_true rfl) (Nat.le_of_ble_eq_true rfl) kc_X7_power ?_
  show qq_Go _ hp 1 3 0 [(0, .ref 84), (1, .int cell), (2, .int into)] [] _ _
  refine qq_aload_n dX7_power_0 rfl 0 rfl ?_
  refine qq_iconst (v := 1) dX7_power_1 (by decide) ?_
  refine qq_iload_n dX7_power_2 rfl 1 rfl ?_
  refine qq_iload_n dX7_power_3 rfl 2 rfl ?_
  refine qq_less (bc' := 0 + 1) (bs' := 0 + 3) (by omega) (by omega) ?_
  refine qq_callV (bc := 0) (bs := 0) (mc := 1) (ms := 3) (o := 84) (ci := 4) (N := 11) (T := TX7) (as := [.int 1, .int cell, .int into]) (rest := []) dX7_power_4 hS.2.2.1 (by decide) rfl (mt_X7_made hp A S hS (1 : Int32) cell into (vp_d (by decide))) rfl kl_X7_164 kn_X7_made ke_X7_made ki_X7 kc_X7_made kd_X7_made rfl (by decide) (by decide) (Nat.le_of_ble_eq_true rfl) (fun v hp1 hv _ _ => ?_) (fun E hp' zx _ _ => zx.elim)
  obtain ⟨rfl, hS1, fr1⟩ := hv
  show qq_Go _ hp1 (0) (0) 7 [(0, .ref 84), (1, .int cell), (2, .int into)] [.int ((r_X7_made (1 : Int32) cell into S).1)] _ _
  have ze : r_X7_power cell into S = ((r_X7_made (1 : Int32) cell into S).1, (r_X7_made (1 : Int32) cell into S).2) := by
    rw [r_X7_power]
  exact qq_iret dX7_power_7 rfl rfl ⟨by rw [ze], by rw [ze]; first | exact ms_pr hS1 | exact hS1, fr1⟩
def r_X7_lessen (cell : Int32) (into : Int32)  (S : sM) : Int32 × sM := ((r_X7_made (2 : Int32) cell into S).1, (r_X7_made (2 : Int32) cell into S).2)
set_option maxRecDepth 4000 in
theorem mt_X7_lessen (hp : qq_H) (A : qA) (S : sM) (hS : ms_M A S hp) (cell : Int32) (into : Int32)      : qq_Mt mX7_lessen [.ref 84, .int cell, .int into] hp 1 3 (fun v hp' => v = some (.int ((r_X7_lessen cell into S).1)) ∧ ms_M A ((r_X7_lessen cell into S).2) hp' ∧ fr A hp hp') (fun _ _ => False) := by
  refine qq_met pn_X7 (Nat.le_of_ble_eq_true rfl) (Nat.le_of_ble_eq_true rfl) kc_X7_lessen ?_
  show qq_Go _ hp 1 3 0 [(0, .ref 84), (1, .int cell), (2, .int into)] [] _ _
  refine qq_aload_n dX7_lessen_0 rfl 0 rfl ?_
  refine qq_iconst (v := 2) dX7_lessen_1 (by decide) ?_
  refine qq_iload_n dX7_lessen_2 rfl 1 rfl ?_
  refine qq_iload_n dX7_lessen_3 rfl 2 rfl ?_
  refine qq_less (bc' := 0 + 1) (bs' := 0 + 3) (by omega) (by omega) ?_
  refine qq_callV (bc := 0) (bs := 0) (mc := 1) (ms := 3) (o := 84) (ci := 4) (N := 11) (T := TX7) (as := [.int 2, .int cell, .int into]) (rest := []) dX7_lessen_4 hS.2.2.1 (by decide) rfl (mt_X7_made hp A S hS (2 : Int32) cell into (vp_d (by decide))) rfl kl_X7_164 kn_X7_made ke_X7_made ki_X7 kc_X7_made kd_X7_made rfl (by decide) (by decide) (Nat.le_of_ble_eq_true rfl) (fun v hp1 hv _ _ => ?_) (fun E hp' zx _ _ => zx.elim)
  obtain ⟨rfl, hS1, fr1⟩ := hv
  show qq_Go _ hp1 (0) (0) 7 [(0, .ref 84), (1, .int cell), (2, .int into)] [.int ((r_X7_made (2 : Int32) cell into S).1)] _ _
  have ze : r_X7_lessen cell into S = ((r_X7_made (2 : Int32) cell into S).1, (r_X7_made (2 : Int32) cell into S).2) := by
    rw [r_X7_lessen]
  exact qq_iret dX7_lessen_7 rfl rfl ⟨by rw [ze], by rw [ze]; first | exact ms_pr hS1 | exact hS1, fr1⟩
def r_X7_log (cell : Int32) (into : Int32)  (S : sM) : Int32 × sM := ((r_X7_made (3 : Int32) cell into S).1, (r_X7_made (3 : Int32) cell into S).2)
set_option maxRecDepth 4000 in
theorem mt_X7_log (hp : qq_H) (A : qA) (S : sM) (hS : ms_M A S hp) (cell : Int32) (into : Int32)      : qq_Mt mX7_log [.ref 84, .int cell, .int into] hp 1 3 (fun v hp' => v = some (.int ((r_X7_log cell into S).1)) ∧ ms_M A ((r_X7_log cell into S).2) hp' ∧ fr A hp hp') (fun _ _ => False) := by
  refine qq_met pn_X7 (Nat.le_of_ble_eq_true rfl) (Nat.le_of_ble_eq_true rfl) kc_X7_log ?_
  show qq_Go _ hp 1 3 0 [(0, .ref 84), (1, .int cell), (2, .int into)] [] _ _
  refine qq_aload_n dX7_log_0 rfl 0 rfl ?_
  refine qq_iconst (v := 3) dX7_log_1 (by decide) ?_
  refine qq_iload_n dX7_log_2 rfl 1 rfl ?_
  refine qq_iload_n dX7_log_3 rfl 2 rfl ?_
  refine qq_less (bc' := 0 + 1) (bs' := 0 + 3) (by omega) (by omega) ?_
  refine qq_callV (bc := 0) (bs := 0) (mc := 1) (ms := 3) (o := 84) (ci := 4) (N := 11) (T := TX7) (as := [.int 3, .int cell, .int into]) (rest := []) dX7_log_4 hS.2.2.1 (by decide) rfl (mt_X7_made hp A S hS (3 : Int32) cell into (vp_d (by decide))) rfl kl_X7_164 kn_X7_made ke_X7_made ki_X7 kc_X7_made kd_X7_made rfl (by decide) (by decide) (Nat.le_of_ble_eq_true rfl) (fun v hp1 hv _ _ => ?_) (fun E hp' zx _ _ => zx.elim)
  obtain ⟨rfl, hS1, fr1⟩ := hv
  show qq_Go _ hp1 (0) (0) 7 [(0, .ref 84), (1, .int cell), (2, .int into)] [.int ((r_X7_made (3 : Int32) cell into S).1)] _ _
  have ze : r_X7_log cell into S = ((r_X7_made (3 : Int32) cell into S).1, (r_X7_made (3 : Int32) cell into S).2) := by
    rw [r_X7_log]
  exact qq_iret dX7_log_7 rfl rfl ⟨by rw [ze], by rw [ze]; first | exact ms_pr hS1 | exact hS1, fr1⟩
def lf_X7_all_37 (how : Int32) (bf9 : Int32)  : Nat → Int32 → Int32 → sM → Int32 × Int32 × sM
  | 0, mn9, k9, S => (mn9, k9, S)
  | fu + 1, mn9, k9, S => if 8 ≤ k9 then (mn9, k9, S) else om (r_X7_becomes how k9 S) (lf_X7_all_37 how bf9 fu mn9 (k9 + 1) S) (fun fo => if (fo (2 : Int32).toNatClampNeg) = 1 then lf_X7_all_37 how bf9 fu (mn9 + 1) (k9 + 1) ((r_X7_come k9 (fo (0 : Int32).toNatClampNeg) (fo (1 : Int32).toNatClampNeg) (1 : Int32) S).2) else lf_X7_all_37 how bf9 fu (mn9 + 1) (k9 + 1) ((r_X7_come k9 (fo (0 : Int32).toNatClampNeg) (fo (1 : Int32).toNatClampNeg) (0 : Int32) S).2))
set_option maxRecDepth 4000 in
theorem lq_X7_all_37 (how : Int32) (bf9 : Int32) (A : qA)  (zw9 : vp_in how 4) {P : Option Value → qq_H → Prop} {PX : String → qq_H → Prop} : ∀ (fu : Nat) (mn9 : Int32) (k9 : Int32) (hp : qq_H) (S : sM), ms_M A S hp → ¬ k9 < 0 → ((8 : Int32).toInt - k9.toInt).toNat < fu → ∀ (bc bs : Nat), (∀ hp' : qq_H, ms_M A ((lf_X7_all_37 how bf9 fu mn9 k9 S).2.2) hp' → fr A hp hp' → qq_Go mX7_all hp' bc bs 98 [(0, .ref 84), (1, .int how), (2, .int ((lf_X7_all_37 how bf9 fu mn9 k9 S).1)), (3, .int bf9)] [] P PX) → qq_Go mX7_all hp (1 * fu + bc) (3 * fu + bs) 37 [(0, .ref 84), (1, .int how), (2, .int mn9), (3, .int bf9), (4, .int k9)] [] P PX := by
  intro fu
  induction fu with
  | zero => intro mn9 k9 hp S hS zp zz; exact absurd zz (Nat.not_lt_zero _)
  | succ fu lqih =>
    intro mn9 k9 hp S hS zp zh bc bs hk
    refine qq_iload dX7_all_37 4 rfl ?_
    refine qq_bipush (v := 8) dX7_all_39 (by decide) ?_
    refine qq_icmp_ge (tgt := 98) dX7_all_41 (by decide) (fun zc1 => ?_) (fun zc1 => ?_)
    · have ze : lf_X7_all_37 how bf9 (fu + 1) mn9 k9 S = (mn9, k9, S) := by
        rw [lf_X7_all_37, if_pos zc1]
      rw [ze] at hk
      refine qq_loc [0, 1, 2, 3] rfl ?_
      refine qq_less (bc' := bc) (bs' := bs) (by omega) (by omega) ?_
      exact hk hp hS (fr_r _ _)
    · refine qq_aload_n dX7_all_44 rfl 0 rfl ?_
      refine qq_iload_n dX7_all_45 rfl 1 rfl ?_
      refine qq_iload dX7_all_46 4 rfl ?_
      refine qq_less (bc' := 1 * fu + bc + 1) (bs' := 3 * fu + bs + 3) (by omega) (by omega) ?_
      refine qq_callV (bc := 1 * fu + bc) (bs := 3 * fu + bs) (mc := 1) (ms := 3) (o := 84) (ci := 4) (N := 11) (T := TX7) (as := [.int how, .int k9]) (rest := []) dX7_all_48 hS.2.2.1 (by decide) rfl (mt_X7_becomes hp A S hS how k9 zw9 (qm_in8 zp zc1)) rfl kl_X7_161 kn_X7_becomes ke_X7_becomes ki_X7 kc_X7_becomes kd_X7_becomes rfl (by decide) (by decide) (Nat.le_of_ble_eq_true rfl) (fun v hp1 hv _ _ => ?_) (fun E hp' zx _ _ => zx.elim)
      obtain ⟨hS1, fr1, hv⟩ := hv
      rcases hv with ⟨rfl, zo2⟩ | ⟨rj, fo, rfl, zo2, hr_o2, hl_o2⟩
      · show qq_Go _ hp1 (1 * fu + bc) (3 * fu + bs) 51 [(0, .ref 84), (1, .int how), (2, .int mn9), (3, .int bf9), (4, .int k9)] [.null] _ _
        refine qq_astoreN (loc' := [(0, .ref 84), (1, .int how), (2, .int mn9), (3, .int bf9), (4, .int k9), (5, .null)]) dX7_all_51 [1, 2, 3, 4, 5, 0] (Nat.le_of_ble_eq_true rfl) rfl ?_
        refine qq_aloadN dX7_all_53 5 rfl ?_
        refine qq_ifnonnullN dX7_all_55 ?_
        refine qq_goto (tgt := 92) dX7_all_58 (by decide) ?_
        refine qq_iinc (v := k9 + 1) (loc' := [(0, .ref 84), (1, .int how), (2, .int mn9), (3, .int bf9), (4, .int (k9 + 1)), (5, .null)]) dX7_all_92 4 rfl rfl [1, 2, 3, 4, 0, 5] (Nat.le_of_ble_eq_true rfl) rfl ?_
        refine qq_goto (tgt := 37) dX7_all_95 (by decide) ?_
        have ze : lf_X7_all_37 how bf9 (fu + 1) mn9 k9 S = lf_X7_all_37 how bf9 fu mn9 (k9 + 1) S := by
          rw [lf_X7_all_37, if_neg zc1, om_n zo2]
        rw [ze] at hk
        refine qq_loc [0, 1, 2, 3, 4] rfl ?_
        refine qq_less (bc' := 1 * fu + bc) (bs' := 3 * fu + bs) (by omega) (by omega) ?_
        exact lqih mn9 (k9 + 1) hp1 S hS1 (qm_pos zp (by assumption)) (qm_up (by assumption) zh) bc bs (fun hq h1 h2 => hk hq h1 (fr_t fr1 h2))
      · show qq_Go _ hp1 (1 * fu + bc) (3 * fu + bs) 51 [(0, .ref 84), (1, .int how), (2, .int mn9), (3, .int bf9), (4, .int k9)] [.ref rj] _ _
        refine qq_astore (loc' := [(0, .ref 84), (1, .int how), (2, .int mn9), (3, .int bf9), (4, .int k9), (5, .ref rj)]) dX7_all_51 [1, 2, 3, 4, 5, 0] (Nat.le_of_ble_eq_true rfl) rfl ?_
        refine qq_aload dX7_all_53 5 rfl ?_
        refine qq_ifnonnull (tgt := 61) dX7_all_55 (by decide) ?_
        refine qq_aload_n dX7_all_61 rfl 0 rfl ?_
        refine qq_iload dX7_all_62 4 rfl ?_
        refine qq_aload dX7_all_64 5 rfl ?_
        refine qq_iconst (v := 0) dX7_all_66 (by decide) ?_
        refine qq_iald dX7_all_67 hr_o2 (vp_d (by decide)) ?_
        refine qq_aload dX7_all_68 5 rfl ?_
        refine qq_iconst (v := 1) dX7_all_70 (by decide) ?_
        refine qq_iald dX7_all_71 hr_o2 (vp_d (by decide)) ?_
        refine qq_aload dX7_all_72 5 rfl ?_
        refine qq_iconst (v := 2) dX7_all_74 (by decide) ?_
        refine qq_iald dX7_all_75 hr_o2 (vp_d (by decide)) ?_
        refine qq_iconst (v := 1) dX7_all_76 (by decide) ?_
        refine qq_icmp_ne (tgt := 84) dX7_all_77 (by decide) (fun zc3 => ?_) (fun zc3 => ?_)
        · refine qq_iconst (v := 0) dX7_all_84 (by decide) ?_
          refine qq_less (bc' := 1 * fu + bc + 0) (bs' := 3 * fu + bs + 0) (by omega) (by omega) ?_
          refine qq_callV (bc := 1 * fu + bc) (bs := 3 * fu + bs) (mc := 0) (ms := 0) (o := 84) (ci := 4) (N := 11) (T := TX7) (as := [.int k9, .int (fo (0 : Int32).toNatClampNeg), .int (fo (1 : Int32).toNatClampNeg), .int 0]) (rest := []) dX7_all_85 hS1.2.2.1 (by decide) rfl (mt_X7_come hp1 A S hS1 k9 (fo (0 : Int32).toNatClampNeg) (fo (1 : Int32).toNatClampNeg) (0 : Int32) (qm_in8 zp zc1)) rfl kl_X7_130 kn_X7_come ke_X7_come ki_X7 kc_X7_come kd_X7_come rfl (by decide) (by decide) (Nat.le_of_ble_eq_true rfl) (fun v hp2 hv _ _ => ?_) (fun E hp' zx _ _ => zx.elim)
          obtain ⟨rfl, hS2, fr2⟩ := hv
          have hr_2 := fr_w fr2 hS1 hl_o2 hr_o2 (by decide)
          have hl_2 := fr_l fr2 hl_o2
          show qq_Go _ hp2 (1 * fu + bc) (3 * fu + bs) 88 [(0, .ref 84), (1, .int how), (2, .int mn9), (3, .int bf9), (4, .int k9), (5, .ref rj)] [.int ((r_X7_come k9 (fo (0 : Int32).toNatClampNeg) (fo (1 : Int32).toNatClampNeg) (0 : Int32) S).1)] _ _
          refine qq_pop dX7_all_88 rfl ?_
          refine qq_iinc (v := mn9 + 1) (loc' := [(0, .ref 84), (1, .int how), (2, .int (mn9 + 1)), (3, .int bf9), (4, .int k9), (5, .ref rj)]) dX7_all_89 2 rfl rfl [1, 2, 0, 3, 4, 5] (Nat.le_of_ble_eq_true rfl) rfl ?_
          refine qq_iinc (v := k9 + 1) (loc' := [(0, .ref 84), (1, .int how), (2, .int (mn9 + 1)), (3, .int bf9), (4, .int (k9 + 1)), (5, .ref rj)]) dX7_all_92 4 rfl rfl [1, 2, 3, 4, 0, 5] (Nat.le_of_ble_eq_true rfl) rfl ?_
          refine qq_goto (tgt := 37) dX7_all_95 (by decide) ?_
          have ze : lf_X7_all_37 how bf9 (fu + 1) mn9 k9 S = lf_X7_all_37 how bf9 fu (mn9 + 1) (k9 + 1) ((r_X7_come k9 (fo (0 : Int32).toNatClampNeg) (fo (1 : Int32).toNatClampNeg) (0 : Int32) S).2) := by
            rw [lf_X7_all_37, if_neg zc1, om_s zo2, if_neg zc3]
          rw [ze] at hk
          refine qq_loc [0, 1, 2, 3, 4] rfl ?_
          refine qq_less (bc' := 1 * fu + bc) (bs' := 3 * fu + bs) (by omega) (by omega) ?_
          exact lqih (mn9 + 1) (k9 + 1) hp2 ((r_X7_come k9 (fo (0 : Int32).toNatClampNeg) (fo (1 : Int32).toNatClampNeg) (0 : Int32) S).2) hS2 (qm_pos zp (by assumption)) (qm_up (by assumption) zh) bc bs (fun hq h1 h2 => hk hq h1 (fr_t (fr_t fr1 fr2) h2))
        · refine qq_iconst (v := 1) dX7_all_80 (by decide) ?_
          refine qq_goto (tgt := 85) dX7_all_81 (by decide) ?_
          refine qq_less (bc' := 1 * fu + bc + 0) (bs' := 3 * fu + bs + 0) (by omega) (by omega) ?_
          refine qq_callV (bc := 1 * fu + bc) (bs := 3 * fu + bs) (mc := 0) (ms := 0) (o := 84) (ci := 4) (N := 11) (T := TX7) (as := [.int k9, .int (fo (0 : Int32).toNatClampNeg), .int (fo (1 : Int32).toNatClampNeg), .int 1]) (rest := []) dX7_all_85 hS1.2.2.1 (by decide) rfl (mt_X7_come hp1 A S hS1 k9 (fo (0 : Int32).toNatClampNeg) (fo (1 : Int32).toNatClampNeg) (1 : Int32) (qm_in8 zp zc1)) rfl kl_X7_130 kn_X7_come ke_X7_come ki_X7 kc_X7_come kd_X7_come rfl (by decide) (by decide) (Nat.le_of_ble_eq_true rfl) (fun v hp3 hv _ _ => ?_) (fun E hp' zx _ _ => zx.elim)
          obtain ⟨rfl, hS3, fr3⟩ := hv
          have hr_3 := fr_w fr3 hS1 hl_o2 hr_o2 (by decide)
          have hl_3 := fr_l fr3 hl_o2
          show qq_Go _ hp3 (1 * fu + bc) (3 * fu + bs) 88 [(0, .ref 84), (1, .int how), (2, .int mn9), (3, .int bf9), (4, .int k9), (5, .ref rj)] [.int ((r_X7_come k9 (fo (0 : Int32).toNatClampNeg) (fo (1 : Int32).toNatClampNeg) (1 : Int32) S).1)] _ _
          refine qq_pop dX7_all_88 rfl ?_
          refine qq_iinc (v := mn9 + 1) (loc' := [(0, .ref 84), (1, .int how), (2, .int (mn9 + 1)), (3, .int bf9), (4, .int k9), (5, .ref rj)]) dX7_all_89 2 rfl rfl [1, 2, 0, 3, 4, 5] (Nat.le_of_ble_eq_true rfl) rfl ?_
          refine qq_iinc (v := k9 + 1) (loc' := [(0, .ref 84), (1, .int how), (2, .int (mn9 + 1)), (3, .int bf9), (4, .int (k9 + 1)), (5, .ref rj)]) dX7_all_92 4 rfl rfl [1, 2, 3, 4, 0, 5] (Nat.le_of_ble_eq_true rfl) rfl ?_
          refine qq_goto (tgt := 37) dX7_all_95 (by decide) ?_
          have ze : lf_X7_all_37 how bf9 (fu + 1) mn9 k9 S = lf_X7_all_37 how bf9 fu (mn9 + 1) (k9 + 1) ((r_X7_come k9 (fo (0 : Int32).toNatClampNeg) (fo (1 : Int32).toNatClampNeg) (1 : Int32) S).2) := by
            rw [lf_X7_all_37, if_neg zc1, om_s zo2, if_pos zc3]
          rw [ze] at hk
          refine qq_loc [0, 1, 2, 3, 4] rfl ?_
          refine qq_less (bc' := 1 * fu + bc) (bs' := 3 * fu + bs) (by omega) (by omega) ?_
          exact lqih (mn9 + 1) (k9 + 1) hp3 ((r_X7_come k9 (fo (0 : Int32).toNatClampNeg) (fo (1 : Int32).toNatClampNeg) (1 : Int32) S).2) hS3 (qm_pos zp (by assumption)) (qm_up (by assumption) zh) bc bs (fun hq h1 h2 => hk hq h1 (fr_t (fr_t fr1 fr3) h2))
def r_X7_all (how : Int32)  (S : sM) : Int32 × sM := if (f_X7_isIn how 1 3) = 0 then (0, (S.1, S.2.1, S.2.2.1, S.2.2.2.1, S.2.2.2.2.1, S.2.2.2.2.2.1, 1)) else ((lf_X7_all_37 how S.2.2.2.1 9 (0 : Int32) (0 : Int32) (S.1, S.2.1, S.2.2.1, S.2.2.2.1, S.2.2.2.2.1, S.2.2.2.2.2.1, 0)).1, (((lf_X7_all_37 how S.2.2.2.1 9 (0 : Int32) (0 : Int32) (S.1, S.2.1, S.2.2.1, S.2.2.2.1, S.2.2.2.2.1, S.2.2.2.2.2.1, 0)).2.2).1, ((lf_X7_all_37 how S.2.2.2.1 9 (0 : Int32) (0 : Int32) (S.1, S.2.1, S.2.2.1, S.2.2.2.1, S.2.2.2.2.1, S.2.2.2.2.2.1, 0)).2.2).2.1, ((lf_X7_all_37 how S.2.2.2.1 9 (0 : Int32) (0 : Int32) (S.1, S.2.1, S.2.2.1, S.2.2.2.1, S.2.2.2.2.1, S.2.2.2.2.2.1, 0)).2.2).2.2.1, S.2.2.2.1 + 1, ((lf_X7_all_37 how S.2.2.2.1 9 (0 : Int32) (0 : Int32) (S.1, S.2.1, S.2.2.1, S.2.2.2.1, S.2.2.2.2.1, S.2.2.2.2.2.1, 0)).2.2).2.2.2.2.1, ((lf_X7_all_37 how S.2.2.2.1 9 (0 : Int32) (0 : Int32) (S.1, S.2.1, S.2.2.1, S.2.2.2.1, S.2.2.2.2.1, S.2.2.2.2.2.1, 0)).2.2).2.2.2.2.2.1, ((lf_X7_all_37 how S.2.2.2.1 9 (0 : Int32) (0 : Int32) (S.1, S.2.1, S.2.2.1, S.2.2.2.1, S.2.2.2.2.1, S.2.2.2.2.2.1, 0)).2.2).2.2.2.2.2.2))
set_option maxRecDepth 4000 in
theorem mt_X7_all (hp : qq_H) (A : qA) (S : sM) (hS : ms_M A S hp) (how : Int32)      : qq_Mt mX7_all [.ref 84, .int how] hp 9 27 (fun v hp' => v = some (.int ((r_X7_all how S).1)) ∧ ms_M A ((r_X7_all how S).2) hp' ∧ fr A hp hp') (fun _ _ => False) := by
  refine qq_met pn_X7 (Nat.le_of_ble_eq_true rfl) (Nat.le_of_ble_eq_true rfl) kc_X7_all ?_
  show qq_Go _ hp 9 27 0 [(0, .ref 84), (1, .int how)] [] _ _
  refine qq_aload_n dX7_all_0 rfl 0 rfl ?_
  refine qq_iload_n dX7_all_1 rfl 1 rfl ?_
  refine qq_iconst (v := 1) dX7_all_2 (by decide) ?_
  refine qq_iconst (v := 3) dX7_all_3 (by decide) ?_
  refine qq_less (bc' := 9 + 0) (bs' := 27 + 0) (by omega) (by omega) ?_
  refine qq_callS (bc := 9) (bs := 27) (mc := 0) (ms := 0) (as := [.int how, .int 1, .int 3]) (rest := [.ref 84]) dX7_all_4 (mt_X7_isIn hp how (1 : Int32) (3 : Int32)) rfl kl_X7_113 ks_X7_isIn ki_X7 kc_X7_isIn kd_X7_isIn rfl (by decide) (by decide) (Nat.le_of_ble_eq_true rfl) (fun v hp' hv _ _ => ?_) (fun E hp' zx _ _ => zx.elim)
  obtain ⟨rfl, rfl⟩ := hv
  show qq_Go _ hp (9) (27) 7 [(0, .ref 84), (1, .int how)] [.int (f_X7_isIn how 1 3), .ref 84] _ _
  refine qq_if_eq (tgt := 14) dX7_all_7 (by decide) (fun zc1 => ?_) (fun zc1 => ?_)
  · refine qq_iconst (v := 1) dX7_all_14 (by decide) ?_
    refine mx_put10 hS dX7_all_15 kl_X7_50 (fun hp1 hS1 fq1 => ?_)
    have fr1 := fq1 A
    replace hS1 : ms_M A (S.1, S.2.1, S.2.2.1, S.2.2.2.1, S.2.2.2.2.1, S.2.2.2.2.2.1, 1) hp1 := hS1
    refine qq_aload_n dX7_all_18 rfl 0 rfl ?_
    refine mx_get hS1 dX7_all_19 10 (by decide) rfl kl_X7_50 ?_
    show qq_Go _ hp1 (9) (27) 22 [(0, .ref 84), (1, .int how)] [.int 1] _ _
    refine qq_if_eq (tgt := 27) dX7_all_22 (by decide) (fun z => absurd z (by decide)) (fun _ => ?_)
    refine qq_iconst (v := 0) dX7_all_25 (by decide) ?_
    have ze : r_X7_all how S = (0, (S.1, S.2.1, S.2.2.1, S.2.2.2.1, S.2.2.2.2.1, S.2.2.2.2.2.1, 1)) := by
      rw [r_X7_all, if_pos zc1]
    exact qq_iret dX7_all_26 rfl rfl ⟨by rw [ze], by rw [ze]; first | exact ms_pr hS1 | exact hS1, fr1⟩
  · have zw1 := qx_in4b zc1
    refine qq_iconst (v := 0) dX7_all_10 (by decide) ?_
    refine qq_goto (tgt := 15) dX7_all_11 (by decide) ?_
    refine mx_put10 hS dX7_all_15 kl_X7_50 (fun hp2 hS2 fq2 => ?_)
    have fr2 := fq2 A
    replace hS2 : ms_M A (S.1, S.2.1, S.2.2.1, S.2.2.2.1, S.2.2.2.2.1, S.2.2.2.2.2.1, 0) hp2 := hS2
    refine qq_aload_n dX7_all_18 rfl 0 rfl ?_
    refine mx_get hS2 dX7_all_19 10 (by decide) rfl kl_X7_50 ?_
    show qq_Go _ hp2 (9) (27) 22 [(0, .ref 84), (1, .int how)] [.int 0] _ _
    refine qq_if_eq (tgt := 27) dX7_all_22 (by decide) (fun _ => ?_) (fun z => absurd (by decide) z)
    refine qq_iconst (v := 0) dX7_all_27 (by decide) ?_
    refine qq_istore_n (loc' := [(0, .ref 84), (1, .int how), (2, .int 0)]) dX7_all_28 rfl [1, 2, 0] (Nat.le_of_ble_eq_true rfl) rfl ?_
    refine qq_aload_n dX7_all_29 rfl 0 rfl ?_
    refine mx_get hS2 dX7_all_30 7 (by decide) rfl kl_X7_117 ?_
    show qq_Go _ hp2 (9) (27) 33 [(0, .ref 84), (1, .int how), (2, .int 0)] [.int S.2.2.2.1] _ _
    refine qq_istore_n (loc' := [(0, .ref 84), (1, .int how), (2, .int 0), (3, .int S.2.2.2.1)]) dX7_all_33 rfl [1, 2, 3, 0] (Nat.le_of_ble_eq_true rfl) rfl ?_
    refine qq_iconst (v := 0) dX7_all_34 (by decide) ?_
    refine qq_istore (loc' := [(0, .ref 84), (1, .int how), (2, .int 0), (3, .int S.2.2.2.1), (4, .int 0)]) dX7_all_35 [1, 2, 3, 4, 0] (Nat.le_of_ble_eq_true rfl) rfl ?_
    refine qq_less (bc' := 0 + 9) (bs' := 0 + 27) (by omega) (by omega) ?_
    refine qq_less (bc' := 1 * 9 + (0)) (bs' := 3 * 9 + (0)) (by omega) (by omega) ?_
    refine lq_X7_all_37 how S.2.2.2.1 A zw1 9 (0 : Int32) (0 : Int32) hp2 (S.1, S.2.1, S.2.2.1, S.2.2.2.1, S.2.2.2.2.1, S.2.2.2.2.2.1, 0) hS2 (by decide) (by decide) (0) (0) (fun hp3 hS3 fr3 => ?_)
    show qq_Go _ hp3 (0) (0) 98 [(0, .ref 84), (1, .int how), (2, .int ((lf_X7_all_37 how S.2.2.2.1 9 (0 : Int32) (0 : Int32) (S.1, S.2.1, S.2.2.1, S.2.2.2.1, S.2.2.2.2.1, S.2.2.2.2.2.1, 0)).1)), (3, .int S.2.2.2.1)] [] _ _
    refine qq_aload_n dX7_all_98 rfl 0 rfl ?_
    refine qq_iload_n dX7_all_99 rfl 3 rfl ?_
    refine qq_iconst (v := 1) dX7_all_100 (by decide) ?_
    refine qq_iadd dX7_all_101 ?_
    refine mx_put7 hS3 dX7_all_102 kl_X7_117 (fun hp4 hS4 fq4 => ?_)
    have fr4 := fq4 A
    replace hS4 : ms_M A (((lf_X7_all_37 how S.2.2.2.1 9 (0 : Int32) (0 : Int32) (S.1, S.2.1, S.2.2.1, S.2.2.2.1, S.2.2.2.2.1, S.2.2.2.2.2.1, 0)).2.2).1, ((lf_X7_all_37 how S.2.2.2.1 9 (0 : Int32) (0 : Int32) (S.1, S.2.1, S.2.2.1, S.2.2.2.1, S.2.2.2.2.1, S.2.2.2.2.2.1, 0)).2.2).2.1, ((lf_X7_all_37 how S.2.2.2.1 9 (0 : Int32) (0 : Int32) (S.1, S.2.1, S.2.2.1, S.2.2.2.1, S.2.2.2.2.1, S.2.2.2.2.2.1, 0)).2.2).2.2.1, S.2.2.2.1 + 1, ((lf_X7_all_37 how S.2.2.2.1 9 (0 : Int32) (0 : Int32) (S.1, S.2.1, S.2.2.1, S.2.2.2.1, S.2.2.2.2.1, S.2.2.2.2.2.1, 0)).2.2).2.2.2.2.1, ((lf_X7_all_37 how S.2.2.2.1 9 (0 : Int32) (0 : Int32) (S.1, S.2.1, S.2.2.1, S.2.2.2.1, S.2.2.2.2.1, S.2.2.2.2.2.1, 0)).2.2).2.2.2.2.2.1, ((lf_X7_all_37 how S.2.2.2.1 9 (0 : Int32) (0 : Int32) (S.1, S.2.1, S.2.2.1, S.2.2.2.1, S.2.2.2.2.1, S.2.2.2.2.2.1, 0)).2.2).2.2.2.2.2.2) hp4 := hS4
    refine qq_iload_n dX7_all_105 rfl 2 rfl ?_
    have ze : r_X7_all how S = ((lf_X7_all_37 how S.2.2.2.1 9 (0 : Int32) (0 : Int32) (S.1, S.2.1, S.2.2.1, S.2.2.2.1, S.2.2.2.2.1, S.2.2.2.2.2.1, 0)).1, (((lf_X7_all_37 how S.2.2.2.1 9 (0 : Int32) (0 : Int32) (S.1, S.2.1, S.2.2.1, S.2.2.2.1, S.2.2.2.2.1, S.2.2.2.2.2.1, 0)).2.2).1, ((lf_X7_all_37 how S.2.2.2.1 9 (0 : Int32) (0 : Int32) (S.1, S.2.1, S.2.2.1, S.2.2.2.1, S.2.2.2.2.1, S.2.2.2.2.2.1, 0)).2.2).2.1, ((lf_X7_all_37 how S.2.2.2.1 9 (0 : Int32) (0 : Int32) (S.1, S.2.1, S.2.2.1, S.2.2.2.1, S.2.2.2.2.1, S.2.2.2.2.2.1, 0)).2.2).2.2.1, S.2.2.2.1 + 1, ((lf_X7_all_37 how S.2.2.2.1 9 (0 : Int32) (0 : Int32) (S.1, S.2.1, S.2.2.1, S.2.2.2.1, S.2.2.2.2.1, S.2.2.2.2.2.1, 0)).2.2).2.2.2.2.1, ((lf_X7_all_37 how S.2.2.2.1 9 (0 : Int32) (0 : Int32) (S.1, S.2.1, S.2.2.1, S.2.2.2.1, S.2.2.2.2.1, S.2.2.2.2.2.1, 0)).2.2).2.2.2.2.2.1, ((lf_X7_all_37 how S.2.2.2.1 9 (0 : Int32) (0 : Int32) (S.1, S.2.1, S.2.2.1, S.2.2.2.1, S.2.2.2.2.1, S.2.2.2.2.2.1, 0)).2.2).2.2.2.2.2.2)) := by
      rw [r_X7_all, if_neg zc1]
    exact qq_iret dX7_all_106 rfl rfl ⟨by rw [ze], by rw [ze]; first | exact ms_pr hS4 | exact hS4, (fr_t (fr_t fr2 fr3) fr4)⟩