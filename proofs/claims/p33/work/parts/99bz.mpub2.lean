def r_X7_upper (cell : Int32)  (S : sM) : Int32 × sM := if ((r_X7_isUnkept cell S).1) = 0 then (((r_X7_digitsOf cell ((r_X7_isUnkept cell S).2)) >>> ((32 : Int32).toInt64 &&& 63)).toInt32, (r_X7_isUnkept cell S).2) else (0, (r_X7_isUnkept cell S).2)
set_option maxRecDepth 4000 in
theorem mt_X7_upper (hp : qq_H) (A : qA) (S : sM) (hS : ms_M A S hp) (cell : Int32)      : qq_Mt mX7_upper [.ref 84, .int cell] hp 0 0 (fun v hp' => v = some (.int ((r_X7_upper cell S).1)) ∧ ms_M A ((r_X7_upper cell S).2) hp' ∧ fr A hp hp') (fun _ _ => False) := by
  refine qq_met pn_X7 (Nat.le_of_ble_eq_true rfl) (Nat.le_of_ble_eq_true rfl) kc_X7_upper ?_
  show qq_Go _ hp 0 0 0 [(0, .ref 84), (1, .int cell)] [] _ _
  refine qq_aload_n dX7_upper_0 rfl 0 rfl ?_
  refine qq_iload_n dX7_upper_1 rfl 1 rfl ?_
  refine qq_less (bc' := 0 + 0) (bs' := 0 + 0) (by omega) (by omega) ?_
  refine qq_callV (bc := 0) (bs := 0) (mc := 0) (ms := 0) (o := 84) (ci := 4) (N := 11) (T := TX7) (as := [.int cell]) (rest := []) dX7_upper_2 hS.2.2.1 (by decide) rfl (mt_X7_isUnkept hp A S hS cell ) rfl kl_X7_203 kn_X7_isUnkept ke_X7_isUnkept ki_X7 kc_X7_isUnkept kd_X7_isUnkept rfl (by decide) (by decide) (Nat.le_of_ble_eq_true rfl) (fun v hp1 hv _ _ => ?_) (fun E hp' zx _ _ => zx.elim)
  obtain ⟨rfl, hS1, fr1⟩ := hv
  show qq_Go _ hp1 (0) (0) 5 [(0, .ref 84), (1, .int cell)] [.int ((r_X7_isUnkept cell S).1)] _ _
  refine qq_if_eq (tgt := 12) dX7_upper_5 (by decide) (fun zc1 => ?_) (fun zc1 => ?_)
  · have zv1 := qx_isUnkept zc1
    refine qq_aload_n dX7_upper_12 rfl 0 rfl ?_
    refine qq_iload_n dX7_upper_13 rfl 1 rfl ?_
    refine qq_less (bc' := 0 + 0) (bs' := 0 + 0) (by omega) (by omega) ?_
    refine qq_callV (bc := 0) (bs := 0) (mc := 0) (ms := 0) (o := 84) (ci := 4) (N := 11) (T := TX7) (as := [.int cell]) (rest := []) dX7_upper_14 hS1.2.2.1 (by decide) rfl (mt_X7_digitsOf hp1 A ((r_X7_isUnkept cell S).2) hS1 cell zv1) rfl kl_X7_206 kn_X7_digitsOf ke_X7_digitsOf ki_X7 kc_X7_digitsOf kd_X7_digitsOf rfl (by decide) (by decide) (Nat.le_of_ble_eq_true rfl) (fun v hp' hv _ _ => ?_) (fun E hp' zx _ _ => zx.elim)
    obtain ⟨rfl, rfl⟩ := hv
    show qq_Go _ hp1 (0) (0) 17 [(0, .ref 84), (1, .int cell)] [.long (r_X7_digitsOf cell ((r_X7_isUnkept cell S).2))] _ _
    refine qq_bipush (v := 32) dX7_upper_17 (by decide) ?_
    refine qq_lshr dX7_upper_19 ?_
    refine qq_l2i dX7_upper_20 ?_
    have ze : r_X7_upper cell S = (((r_X7_digitsOf cell ((r_X7_isUnkept cell S).2)) >>> ((32 : Int32).toInt64 &&& 63)).toInt32, (r_X7_isUnkept cell S).2) := by
      rw [r_X7_upper, if_pos zc1]
    exact qq_iret dX7_upper_21 rfl rfl ⟨by rw [ze], by rw [ze]; first | exact ms_pr hS1 | exact hS1, fr1⟩
  · refine qq_iconst (v := 0) dX7_upper_8 (by decide) ?_
    refine qq_goto (tgt := 21) dX7_upper_9 (by decide) ?_
    have ze : r_X7_upper cell S = (0, (r_X7_isUnkept cell S).2) := by
      rw [r_X7_upper, if_neg zc1]
    exact qq_iret dX7_upper_21 rfl rfl ⟨by rw [ze], by rw [ze]; first | exact ms_pr hS1 | exact hS1, fr1⟩
def r_X7_lower (cell : Int32)  (S : sM) : Int32 × sM := if ((r_X7_isUnkept cell S).1) = 0 then ((r_X7_digitsOf cell ((r_X7_isUnkept cell S).2)).toInt32, (r_X7_isUnkept cell S).2) else (0, (r_X7_isUnkept cell S).2)
set_option maxRecDepth 4000 in
theorem mt_X7_lower (hp : qq_H) (A : qA) (S : sM) (hS : ms_M A S hp) (cell : Int32)      : qq_Mt mX7_lower [.ref 84, .int cell] hp 0 0 (fun v hp' => v = some (.int ((r_X7_lower cell S).1)) ∧ ms_M A ((r_X7_lower cell S).2) hp' ∧ fr A hp hp') (fun _ _ => False) := by
  refine qq_met pn_X7 (Nat.le_of_ble_eq_true rfl) (Nat.le_of_ble_eq_true rfl) kc_X7_lower ?_
  show qq_Go _ hp 0 0 0 [(0, .ref 84), (1, .int cell)] [] _ _
  refine qq_aload_n dX7_lower_0 rfl 0 rfl ?_
  refine qq_iload_n dX7_lower_1 rfl 1 rfl ?_
  refine qq_less (bc' := 0 + 0) (bs' := 0 + 0) (by omega) (by omega) ?_
  refine qq_callV (bc := 0) (bs := 0) (mc := 0) (ms := 0) (o := 84) (ci := 4) (N := 11) (T := TX7) (as := [.int cell]) (rest := []) dX7_lower_2 hS.2.2.1 (by decide) rfl (mt_X7_isUnkept hp A S hS cell ) rfl kl_X7_203 kn_X7_isUnkept ke_X7_isUnkept ki_X7 kc_X7_isUnkept kd_X7_isUnkept rfl (by decide) (by decide) (Nat.le_of_ble_eq_true rfl) (fun v hp1 hv _ _ => ?_) (fun E hp' zx _ _ => zx.elim)
  obtain ⟨rfl, hS1, fr1⟩ := hv
  show qq_Go _ hp1 (0) (0) 5 [(0, .ref 84), (1, .int cell)] [.int ((r_X7_isUnkept cell S).1)] _ _
  refine qq_if_eq (tgt := 12) dX7_lower_5 (by decide) (fun zc1 => ?_) (fun zc1 => ?_)
  · have zv1 := qx_isUnkept zc1
    refine qq_aload_n dX7_lower_12 rfl 0 rfl ?_
    refine qq_iload_n dX7_lower_13 rfl 1 rfl ?_
    refine qq_less (bc' := 0 + 0) (bs' := 0 + 0) (by omega) (by omega) ?_
    refine qq_callV (bc := 0) (bs := 0) (mc := 0) (ms := 0) (o := 84) (ci := 4) (N := 11) (T := TX7) (as := [.int cell]) (rest := []) dX7_lower_14 hS1.2.2.1 (by decide) rfl (mt_X7_digitsOf hp1 A ((r_X7_isUnkept cell S).2) hS1 cell zv1) rfl kl_X7_206 kn_X7_digitsOf ke_X7_digitsOf ki_X7 kc_X7_digitsOf kd_X7_digitsOf rfl (by decide) (by decide) (Nat.le_of_ble_eq_true rfl) (fun v hp' hv _ _ => ?_) (fun E hp' zx _ _ => zx.elim)
    obtain ⟨rfl, rfl⟩ := hv
    show qq_Go _ hp1 (0) (0) 17 [(0, .ref 84), (1, .int cell)] [.long (r_X7_digitsOf cell ((r_X7_isUnkept cell S).2))] _ _
    refine qq_l2i dX7_lower_17 ?_
    have ze : r_X7_lower cell S = ((r_X7_digitsOf cell ((r_X7_isUnkept cell S).2)).toInt32, (r_X7_isUnkept cell S).2) := by
      rw [r_X7_lower, if_pos zc1]
    exact qq_iret dX7_lower_18 rfl rfl ⟨by rw [ze], by rw [ze]; first | exact ms_pr hS1 | exact hS1, fr1⟩
  · refine qq_iconst (v := 0) dX7_lower_8 (by decide) ?_
    refine qq_goto (tgt := 18) dX7_lower_9 (by decide) ?_
    have ze : r_X7_lower cell S = (0, (r_X7_isUnkept cell S).2) := by
      rw [r_X7_lower, if_neg zc1]
    exact qq_iret dX7_lower_18 rfl rfl ⟨by rw [ze], by rw [ze]; first | exact ms_pr hS1 | exact hS1, fr1⟩
def r_X7_isAlike (one : Int32) (other : Int32)  (S : sM) : Int32 × sM := if ((r_X7_areNone one other S).1) = 0 then if (r_X7_areAlike one other ((r_X7_areNone one other S).2)) = 0 then (0, (r_X7_areNone one other S).2) else (1, (r_X7_areNone one other S).2) else (0, (r_X7_areNone one other S).2)
set_option maxRecDepth 4000 in
theorem mt_X7_isAlike (hp : qq_H) (A : qA) (S : sM) (hS : ms_M A S hp) (one : Int32) (other : Int32)      : qq_Mt mX7_isAlike [.ref 84, .int one, .int other] hp 0 0 (fun v hp' => v = some (.int ((r_X7_isAlike one other S).1)) ∧ ms_M A ((r_X7_isAlike one other S).2) hp' ∧ fr A hp hp') (fun _ _ => False) := by
  refine qq_met pn_X7 (Nat.le_of_ble_eq_true rfl) (Nat.le_of_ble_eq_true rfl) kc_X7_isAlike ?_
  show qq_Go _ hp 0 0 0 [(0, .ref 84), (1, .int one), (2, .int other)] [] _ _
  refine qq_aload_n dX7_isAlike_0 rfl 0 rfl ?_
  refine qq_iload_n dX7_isAlike_1 rfl 1 rfl ?_
  refine qq_iload_n dX7_isAlike_2 rfl 2 rfl ?_
  refine qq_less (bc' := 0 + 0) (bs' := 0 + 0) (by omega) (by omega) ?_
  refine qq_callV (bc := 0) (bs := 0) (mc := 0) (ms := 0) (o := 84) (ci := 4) (N := 11) (T := TX7) (as := [.int one, .int other]) (rest := []) dX7_isAlike_3 hS.2.2.1 (by decide) rfl (mt_X7_areNone hp A S hS one other ) rfl kl_X7_236 kn_X7_areNone ke_X7_areNone ki_X7 kc_X7_areNone kd_X7_areNone rfl (by decide) (by decide) (Nat.le_of_ble_eq_true rfl) (fun v hp1 hv _ _ => ?_) (fun E hp' zx _ _ => zx.elim)
  obtain ⟨rfl, hS1, fr1⟩ := hv
  show qq_Go _ hp1 (0) (0) 6 [(0, .ref 84), (1, .int one), (2, .int other)] [.int ((r_X7_areNone one other S).1)] _ _
  refine qq_if_ne (tgt := 22) dX7_isAlike_6 (by decide) (fun zc1 => ?_) (fun zc1 => ?_)
  · refine qq_iconst (v := 0) dX7_isAlike_22 (by decide) ?_
    have ze : r_X7_isAlike one other S = (0, (r_X7_areNone one other S).2) := by
      rw [r_X7_isAlike, if_neg zc1]
    exact qq_iret dX7_isAlike_23 rfl rfl ⟨by rw [ze], by rw [ze]; first | exact ms_pr hS1 | exact hS1, fr1⟩
  · have zv1 := (qx_none zc1).1
    have zv2 := (qx_none zc1).2
    refine qq_aload_n dX7_isAlike_9 rfl 0 rfl ?_
    refine qq_iload_n dX7_isAlike_10 rfl 1 rfl ?_
    refine qq_iload_n dX7_isAlike_11 rfl 2 rfl ?_
    refine qq_less (bc' := 0 + 0) (bs' := 0 + 0) (by omega) (by omega) ?_
    refine qq_callV (bc := 0) (bs := 0) (mc := 0) (ms := 0) (o := 84) (ci := 4) (N := 11) (T := TX7) (as := [.int one, .int other]) (rest := []) dX7_isAlike_12 hS1.2.2.1 (by decide) rfl (mt_X7_areAlike hp1 A ((r_X7_areNone one other S).2) hS1 one other zv1 zv2) rfl kl_X7_243 kn_X7_areAlike ke_X7_areAlike ki_X7 kc_X7_areAlike kd_X7_areAlike rfl (by decide) (by decide) (Nat.le_of_ble_eq_true rfl) (fun v hp' hv _ _ => ?_) (fun E hp' zx _ _ => zx.elim)
    obtain ⟨rfl, rfl⟩ := hv
    show qq_Go _ hp1 (0) (0) 15 [(0, .ref 84), (1, .int one), (2, .int other)] [.int (r_X7_areAlike one other ((r_X7_areNone one other S).2))] _ _
    refine qq_if_eq (tgt := 22) dX7_isAlike_15 (by decide) (fun zc2 => ?_) (fun zc2 => ?_)
    · refine qq_iconst (v := 0) dX7_isAlike_22 (by decide) ?_
      have ze : r_X7_isAlike one other S = (0, (r_X7_areNone one other S).2) := by
        rw [r_X7_isAlike, if_pos zc1, if_pos zc2]
      exact qq_iret dX7_isAlike_23 rfl rfl ⟨by rw [ze], by rw [ze]; first | exact ms_pr hS1 | exact hS1, fr1⟩
    · refine qq_iconst (v := 1) dX7_isAlike_18 (by decide) ?_
      refine qq_goto (tgt := 23) dX7_isAlike_19 (by decide) ?_
      have ze : r_X7_isAlike one other S = (1, (r_X7_areNone one other S).2) := by
        rw [r_X7_isAlike, if_pos zc1, if_neg zc2]
      exact qq_iret dX7_isAlike_23 rfl rfl ⟨by rw [ze], by rw [ze]; first | exact ms_pr hS1 | exact hS1, fr1⟩
def r_X7_isNear (one : Int32) (other : Int32)  (S : sM) : Int32 × sM := if ((r_X7_areNone one other S).1) = 0 then if (r_X7_areNear one other ((r_X7_areNone one other S).2)) = 0 then (0, (r_X7_areNone one other S).2) else (1, (r_X7_areNone one other S).2) else (0, (r_X7_areNone one other S).2)
set_option maxRecDepth 4000 in
theorem mt_X7_isNear (hp : qq_H) (A : qA) (S : sM) (hS : ms_M A S hp) (one : Int32) (other : Int32)      : qq_Mt mX7_isNear [.ref 84, .int one, .int other] hp 0 0 (fun v hp' => v = some (.int ((r_X7_isNear one other S).1)) ∧ ms_M A ((r_X7_isNear one other S).2) hp' ∧ fr A hp hp') (fun _ _ => False) := by
  refine qq_met pn_X7 (Nat.le_of_ble_eq_true rfl) (Nat.le_of_ble_eq_true rfl) kc_X7_isNear ?_
  show qq_Go _ hp 0 0 0 [(0, .ref 84), (1, .int one), (2, .int other)] [] _ _
  refine qq_aload_n dX7_isNear_0 rfl 0 rfl ?_
  refine qq_iload_n dX7_isNear_1 rfl 1 rfl ?_
  refine qq_iload_n dX7_isNear_2 rfl 2 rfl ?_
  refine qq_less (bc' := 0 + 0) (bs' := 0 + 0) (by omega) (by omega) ?_
  refine qq_callV (bc := 0) (bs := 0) (mc := 0) (ms := 0) (o := 84) (ci := 4) (N := 11) (T := TX7) (as := [.int one, .int other]) (rest := []) dX7_isNear_3 hS.2.2.1 (by decide) rfl (mt_X7_areNone hp A S hS one other ) rfl kl_X7_236 kn_X7_areNone ke_X7_areNone ki_X7 kc_X7_areNone kd_X7_areNone rfl (by decide) (by decide) (Nat.le_of_ble_eq_true rfl) (fun v hp1 hv _ _ => ?_) (fun E hp' zx _ _ => zx.elim)
  obtain ⟨rfl, hS1, fr1⟩ := hv
  show qq_Go _ hp1 (0) (0) 6 [(0, .ref 84), (1, .int one), (2, .int other)] [.int ((r_X7_areNone one other S).1)] _ _
  refine qq_if_ne (tgt := 22) dX7_isNear_6 (by decide) (fun zc1 => ?_) (fun zc1 => ?_)
  · refine qq_iconst (v := 0) dX7_isNear_22 (by decide) ?_
    have ze : r_X7_isNear one other S = (0, (r_X7_areNone one other S).2) := by
      rw [r_X7_isNear, if_neg zc1]
    exact qq_iret dX7_isNear_23 rfl rfl ⟨by rw [ze], by rw [ze]; first | exact ms_pr hS1 | exact hS1, fr1⟩
  · have zv1 := (qx_none zc1).1
    have zv2 := (qx_none zc1).2
    refine qq_aload_n dX7_isNear_9 rfl 0 rfl ?_
    refine qq_iload_n dX7_isNear_10 rfl 1 rfl ?_
    refine qq_iload_n dX7_isNear_11 rfl 2 rfl ?_
    refine qq_less (bc' := 0 + 0) (bs' := 0 + 0) (by omega) (by omega) ?_
    refine qq_callV (bc := 0) (bs := 0) (mc := 0) (ms := 0) (o := 84) (ci := 4) (N := 11) (T := TX7) (as := [.int one, .int other]) (rest := []) dX7_isNear_12 hS1.2.2.1 (by decide) rfl (mt_X7_areNear hp1 A ((r_X7_areNone one other S).2) hS1 one other zv1 zv2) rfl kl_X7_240 kn_X7_areNear ke_X7_areNear ki_X7 kc_X7_areNear kd_X7_areNear rfl (by decide) (by decide) (Nat.le_of_ble_eq_true rfl) (fun v hp' hv _ _ => ?_) (fun E hp' zx _ _ => zx.elim)
    obtain ⟨rfl, rfl⟩ := hv
    show qq_Go _ hp1 (0) (0) 15 [(0, .ref 84), (1, .int one), (2, .int other)] [.int (r_X7_areNear one other ((r_X7_areNone one other S).2))] _ _
    refine qq_if_eq (tgt := 22) dX7_isNear_15 (by decide) (fun zc2 => ?_) (fun zc2 => ?_)
    · refine qq_iconst (v := 0) dX7_isNear_22 (by decide) ?_
      have ze : r_X7_isNear one other S = (0, (r_X7_areNone one other S).2) := by
        rw [r_X7_isNear, if_pos zc1, if_pos zc2]
      exact qq_iret dX7_isNear_23 rfl rfl ⟨by rw [ze], by rw [ze]; first | exact ms_pr hS1 | exact hS1, fr1⟩
    · refine qq_iconst (v := 1) dX7_isNear_18 (by decide) ?_
      refine qq_goto (tgt := 23) dX7_isNear_19 (by decide) ?_
      have ze : r_X7_isNear one other S = (1, (r_X7_areNone one other S).2) := by
        rw [r_X7_isNear, if_pos zc1, if_neg zc2]
      exact qq_iret dX7_isNear_23 rfl rfl ⟨by rw [ze], by rw [ze]; first | exact ms_pr hS1 | exact hS1, fr1⟩
def r_X7_most (one : Int32) (other : Int32)  (S : sM) : Int32 × sM := if ((r_X7_areNone one other S).1) = 0 then if (r_X7_areNear one other ((r_X7_areNone one other S).2)) = 0 then (0, (((r_X7_areNone one other S).2).1, ((r_X7_areNone one other S).2).2.1, ((r_X7_areNone one other S).2).2.2.1, ((r_X7_areNone one other S).2).2.2.2.1, ((r_X7_areNone one other S).2).2.2.2.2.1, ((r_X7_areNone one other S).2).2.2.2.2.2.1, 2)) else if ((((r_X7_areNone one other S).2).2.1) one.toNatClampNeg) ≤ (-4) then ((upd (upd (upd (upd (upd (upd (upd (fun _ => 0) (0 : Int32).toNatClampNeg (2 : Int32)) (1 : Int32).toNatClampNeg (2 : Int32)) (2 : Int32).toNatClampNeg (5 : Int32)) (3 : Int32).toNatClampNeg (6 : Int32)) (4 : Int32).toNatClampNeg (10 : Int32)) (5 : Int32).toNatClampNeg (53 : Int32)) (6 : Int32).toNatClampNeg (124 : Int32)) (((-((((r_X7_areNone one other S).2).2.1) one.toNatClampNeg)) - 5) / 4).toNatClampNeg, (r_X7_areNone one other S).2) else (2, (r_X7_areNone one other S).2) else (0, (r_X7_areNone one other S).2)
set_option maxRecDepth 4000 in
theorem mt_X7_most (hp : qq_H) (A : qA) (S : sM) (hS : ms_M A S hp) (one : Int32) (other : Int32)     (zI : IM S) : qq_Mt mX7_most [.ref 84, .int one, .int other] hp 1 7 (fun v hp' => v = some (.int ((r_X7_most one other S).1)) ∧ ms_M A ((r_X7_most one other S).2) hp' ∧ fr A hp hp') (fun _ _ => False) := by
  refine qq_met pn_X7 (Nat.le_of_ble_eq_true rfl) (Nat.le_of_ble_eq_true rfl) kc_X7_most ?_
  show qq_Go _ hp 1 7 0 [(0, .ref 84), (1, .int one), (2, .int other)] [] _ _
  refine qq_aload_n dX7_most_0 rfl 0 rfl ?_
  refine qq_iload_n dX7_most_1 rfl 1 rfl ?_
  refine qq_iload_n dX7_most_2 rfl 2 rfl ?_
  refine qq_less (bc' := 1 + 0) (bs' := 7 + 0) (by omega) (by omega) ?_
  refine qq_callV (bc := 1) (bs := 7) (mc := 0) (ms := 0) (o := 84) (ci := 4) (N := 11) (T := TX7) (as := [.int one, .int other]) (rest := []) dX7_most_3 hS.2.2.1 (by decide) rfl (mt_X7_areNone hp A S hS one other ) rfl kl_X7_236 kn_X7_areNone ke_X7_areNone ki_X7 kc_X7_areNone kd_X7_areNone rfl (by decide) (by decide) (Nat.le_of_ble_eq_true rfl) (fun v hp1 hv _ _ => ?_) (fun E hp' zx _ _ => zx.elim)
  obtain ⟨rfl, hS1, fr1⟩ := hv
  show qq_Go _ hp1 (1) (7) 6 [(0, .ref 84), (1, .int one), (2, .int other)] [.int ((r_X7_areNone one other S).1)] _ _
  refine qq_if_eq (tgt := 11) dX7_most_6 (by decide) (fun zc1 => ?_) (fun zc1 => ?_)
  · have zv1 := (qx_none zc1).1
    have zv2 := (qx_none zc1).2
    refine qq_aload_n dX7_most_11 rfl 0 rfl ?_
    refine qq_iload_n dX7_most_12 rfl 1 rfl ?_
    refine qq_iload_n dX7_most_13 rfl 2 rfl ?_
    refine qq_less (bc' := 1 + 0) (bs' := 7 + 0) (by omega) (by omega) ?_
    refine qq_callV (bc := 1) (bs := 7) (mc := 0) (ms := 0) (o := 84) (ci := 4) (N := 11) (T := TX7) (as := [.int one, .int other]) (rest := []) dX7_most_14 hS1.2.2.1 (by decide) rfl (mt_X7_areNear hp1 A ((r_X7_areNone one other S).2) hS1 one other zv1 zv2) rfl kl_X7_240 kn_X7_areNear ke_X7_areNear ki_X7 kc_X7_areNear kd_X7_areNear rfl (by decide) (by decide) (Nat.le_of_ble_eq_true rfl) (fun v hp' hv _ _ => ?_) (fun E hp' zx _ _ => zx.elim)
    obtain ⟨rfl, rfl⟩ := hv
    show qq_Go _ hp1 (1) (7) 17 [(0, .ref 84), (1, .int one), (2, .int other)] [.int (r_X7_areNear one other ((r_X7_areNone one other S).2))] _ _
    refine qq_if_ne (tgt := 27) dX7_most_17 (by decide) (fun zc2 => ?_) (fun zc2 => ?_)
    · refine qq_bipush (v := 7) dX7_most_27 (by decide) ?_
      refine qq_less (bc' := 0 + 1) (bs' := 0 + 7) (by omega) (by omega) ?_
      refine qq_newI (N' := 7) (ms := 7) dX7_most_29 (by decide) rfl (Nat.le_of_ble_eq_true rfl) (Nat.le_refl _) ?_ ka_int
      obtain ⟨hp2, he2⟩ : ∃ h, qq_nw hp1 (.inl (0, 7, .inl (fun _ => 0))) = h := ⟨_, rfl⟩
      obtain ⟨hS2, fr2, hr_n2, hl_n2⟩ := ms_n hS1 he2
      refine qq_hp (hp2 := hp2) he2 ?_
      show qq_Go _ hp2 (0) (0) 31 [(0, .ref 84), (1, .int one), (2, .int other)] [.ref hp1.1] _ _
      refine qq_dup dX7_most_31 rfl ?_
      refine qq_iconst (v := 0) dX7_most_32 (by decide) ?_
      refine qq_iconst (v := 2) dX7_most_33 (by decide) ?_
      refine qq_iast dX7_most_34 hr_n2 (ms_80 hS1) (vp_d (by decide)) ?_
      obtain ⟨hp3, he3⟩ : ∃ h : qq_H, (hp2.1, va_up hp2.2 hp1.1 (.inl (0, 7, .inl (upd (fun _ => 0) (0 : Int32).toNatClampNeg (2 : Int32))))) = h := ⟨_, rfl⟩
      obtain ⟨hS3, hr_n3, hl_n3, ff3⟩ := ms_s hS2 hr_n2 (by decide) (by decide) hl_n2 he3 (ms_80 hS1)
      have fr3 := ff3 A _ (fr_t fr1 fr2) fr1.1
      refine qq_hp (hp2 := hp3) he3 ?_
      show qq_Go _ hp3 (0) (0) 35 [(0, .ref 84), (1, .int one), (2, .int other)] [.ref hp1.1] _ _
      refine qq_dup dX7_most_35 rfl ?_
      refine qq_iconst (v := 1) dX7_most_36 (by decide) ?_
      refine qq_iconst (v := 2) dX7_most_37 (by decide) ?_
      refine qq_iast dX7_most_38 hr_n3 (ms_80 hS1) (vp_d (by decide)) ?_
      obtain ⟨hp4, he4⟩ : ∃ h : qq_H, (hp3.1, va_up hp3.2 hp1.1 (.inl (0, 7, .inl (upd (upd (fun _ => 0) (0 : Int32).toNatClampNeg (2 : Int32)) (1 : Int32).toNatClampNeg (2 : Int32))))) = h := ⟨_, rfl⟩
      obtain ⟨hS4, hr_n4, hl_n4, ff4⟩ := ms_s hS3 hr_n3 (by decide) (by decide) hl_n3 he4 (ms_80 hS1)
      have fr4 := ff4 A _ fr3 fr1.1
      refine qq_hp (hp2 := hp4) he4 ?_
      show qq_Go _ hp4 (0) (0) 39 [(0, .ref 84), (1, .int one), (2, .int other)] [.ref hp1.1] _ _
      refine qq_dup dX7_most_39 rfl ?_
      refine qq_iconst (v := 2) dX7_most_40 (by decide) ?_
      refine qq_iconst (v := 5) dX7_most_41 (by decide) ?_
      refine qq_iast dX7_most_42 hr_n4 (ms_80 hS1) (vp_d (by decide)) ?_
      obtain ⟨hp5, he5⟩ : ∃ h : qq_H, (hp4.1, va_up hp4.2 hp1.1 (.inl (0, 7, .inl (upd (upd (upd (fun _ => 0) (0 : Int32).toNatClampNeg (2 : Int32)) (1 : Int32).toNatClampNeg (2 : Int32)) (2 : Int32).toNatClampNeg (5 : Int32))))) = h := ⟨_, rfl⟩
      obtain ⟨hS5, hr_n5, hl_n5, ff5⟩ := ms_s hS4 hr_n4 (by decide) (by decide) hl_n4 he5 (ms_80 hS1)
      have fr5 := ff5 A _ fr4 fr1.1
      refine qq_hp (hp2 := hp5) he5 ?_
      show qq_Go _ hp5 (0) (0) 43 [(0, .ref 84), (1, .int one), (2, .int other)] [.ref hp1.1] _ _
      refine qq_dup dX7_most_43 rfl ?_
      refine qq_iconst (v := 3) dX7_most_44 (by decide) ?_
      refine qq_bipush (v := 6) dX7_most_45 (by decide) ?_
      refine qq_iast dX7_most_47 hr_n5 (ms_80 hS1) (vp_d (by decide)) ?_
      obtain ⟨hp6, he6⟩ : ∃ h : qq_H, (hp5.1, va_up hp5.2 hp1.1 (.inl (0, 7, .inl (upd (upd (upd (upd (fun _ => 0) (0 : Int32).toNatClampNeg (2 : Int32)) (1 : Int32).toNatClampNeg (2 : Int32)) (2 : Int32).toNatClampNeg (5 : Int32)) (3 : Int32).toNatClampNeg (6 : Int32))))) = h := ⟨_, rfl⟩
      obtain ⟨hS6, hr_n6, hl_n6, ff6⟩ := ms_s hS5 hr_n5 (by decide) (by decide) hl_n5 he6 (ms_80 hS1)
      have fr6 := ff6 A _ fr5 fr1.1
      refine qq_hp (hp2 := hp6) he6 ?_
      show qq_Go _ hp6 (0) (0) 48 [(0, .ref 84), (1, .int one), (2, .int other)] [.ref hp1.1] _ _
      refine qq_dup dX7_most_48 rfl ?_
      refine qq_iconst (v := 4) dX7_most_49 (by decide) ?_
      refine qq_bipush (v := 10) dX7_most_50 (by decide) ?_
      refine qq_iast dX7_most_52 hr_n6 (ms_80 hS1) (vp_d (by decide)) ?_
      obtain ⟨hp7, he7⟩ : ∃ h : qq_H, (hp6.1, va_up hp6.2 hp1.1 (.inl (0, 7, .inl (upd (upd (upd (upd (upd (fun _ => 0) (0 : Int32).toNatClampNeg (2 : Int32)) (1 : Int32).toNatClampNeg (2 : Int32)) (2 : Int32).toNatClampNeg (5 : Int32)) (3 : Int32).toNatClampNeg (6 : Int32)) (4 : Int32).toNatClampNeg (10 : Int32))))) = h := ⟨_, rfl⟩
      obtain ⟨hS7, hr_n7, hl_n7, ff7⟩ := ms_s hS6 hr_n6 (by decide) (by decide) hl_n6 he7 (ms_80 hS1)
      have fr7 := ff7 A _ fr6 fr1.1
      refine qq_hp (hp2 := hp7) he7 ?_
      show qq_Go _ hp7 (0) (0) 53 [(0, .ref 84), (1, .int one), (2, .int other)] [.ref hp1.1] _ _
      refine qq_dup dX7_most_53 rfl ?_
      refine qq_iconst (v := 5) dX7_most_54 (by decide) ?_
      refine qq_bipush (v := 53) dX7_most_55 (by decide) ?_
      refine qq_iast dX7_most_57 hr_n7 (ms_80 hS1) (vp_d (by decide)) ?_
      obtain ⟨hp8, he8⟩ : ∃ h : qq_H, (hp7.1, va_up hp7.2 hp1.1 (.inl (0, 7, .inl (upd (upd (upd (upd (upd (upd (fun _ => 0) (0 : Int32).toNatClampNeg (2 : Int32)) (1 : Int32).toNatClampNeg (2 : Int32)) (2 : Int32).toNatClampNeg (5 : Int32)) (3 : Int32).toNatClampNeg (6 : Int32)) (4 : Int32).toNatClampNeg (10 : Int32)) (5 : Int32).toNatClampNeg (53 : Int32))))) = h := ⟨_, rfl⟩
      obtain ⟨hS8, hr_n8, hl_n8, ff8⟩ := ms_s hS7 hr_n7 (by decide) (by decide) hl_n7 he8 (ms_80 hS1)
      have fr8 := ff8 A _ fr7 fr1.1
      refine qq_hp (hp2 := hp8) he8 ?_
      show qq_Go _ hp8 (0) (0) 58 [(0, .ref 84), (1, .int one), (2, .int other)] [.ref hp1.1] _ _
      refine qq_dup dX7_most_58 rfl ?_
      refine qq_bipush (v := 6) dX7_most_59 (by decide) ?_
      refine qq_bipush (v := 124) dX7_most_61 (by decide) ?_
      refine qq_iast dX7_most_63 hr_n8 (ms_80 hS1) (vp_d (by decide)) ?_
      obtain ⟨hp9, he9⟩ : ∃ h : qq_H, (hp8.1, va_up hp8.2 hp1.1 (.inl (0, 7, .inl (upd (upd (upd (upd (upd (upd (upd (fun _ => 0) (0 : Int32).toNatClampNeg (2 : Int32)) (1 : Int32).toNatClampNeg (2 : Int32)) (2 : Int32).toNatClampNeg (5 : Int32)) (3 : Int32).toNatClampNeg (6 : Int32)) (4 : Int32).toNatClampNeg (10 : Int32)) (5 : Int32).toNatClampNeg (53 : Int32)) (6 : Int32).toNatClampNeg (124 : Int32))))) = h := ⟨_, rfl⟩
      obtain ⟨hS9, hr_n9, hl_n9, ff9⟩ := ms_s hS8 hr_n8 (by decide) (by decide) hl_n8 he9 (ms_80 hS1)
      have fr9 := ff9 A _ fr8 fr1.1
      refine qq_hp (hp2 := hp9) he9 ?_
      show qq_Go _ hp9 (0) (0) 64 [(0, .ref 84), (1, .int one), (2, .int other)] [.ref hp1.1] _ _
      refine qq_astore_n (loc' := [(0, .ref 84), (1, .int one), (2, .int other), (3, .ref hp1.1)]) dX7_most_64 rfl [1, 2, 3, 0] (Nat.le_of_ble_eq_true rfl) rfl ?_
      refine qq_aload_n dX7_most_65 rfl 0 rfl ?_
      refine mx_get hS9 dX7_most_66 5 (by decide) rfl kl_X7_31 ?_
      refine qq_iload_n dX7_most_69 rfl 1 rfl ?_
      refine qq_iald dX7_most_70 hS9.2.2.2.2.1 zv1 ?_
      refine qq_istore (loc' := [(0, .ref 84), (1, .int one), (2, .int other), (3, .ref hp1.1), (4, .int ((((r_X7_areNone one other S).2).2.1) one.toNatClampNeg))]) dX7_most_71 [1, 2, 3, 4, 0] (Nat.le_of_ble_eq_true rfl) rfl ?_
      refine qq_iload dX7_most_73 4 rfl ?_
      refine qq_bipush (v := (-4)) dX7_most_75 (by decide) ?_
      refine qq_icmp_le (tgt := 84) dX7_most_77 (by decide) (fun zc3 => ?_) (fun zc3 => ?_)
      · refine qq_aload_n dX7_most_84 rfl 3 rfl ?_
        refine qq_iload dX7_most_85 4 rfl ?_
        refine qq_ineg dX7_most_87 ?_
        refine qq_iconst (v := 5) dX7_most_88 (by decide) ?_
        refine qq_isub dX7_most_89 ?_
        refine qq_iconst (v := 4) dX7_most_90 (by decide) ?_
        refine qq_idiv dX7_most_91 (by decide) ?_
        refine qq_iald dX7_most_92 hr_n9 (qx_near (im_none zI) zv1 zv2 (by assumption) (by assumption)) ?_
        have ze : r_X7_most one other S = ((upd (upd (upd (upd (upd (upd (upd (fun _ => 0) (0 : Int32).toNatClampNeg (2 : Int32)) (1 : Int32).toNatClampNeg (2 : Int32)) (2 : Int32).toNatClampNeg (5 : Int32)) (3 : Int32).toNatClampNeg (6 : Int32)) (4 : Int32).toNatClampNeg (10 : Int32)) (5 : Int32).toNatClampNeg (53 : Int32)) (6 : Int32).toNatClampNeg (124 : Int32)) (((-((((r_X7_areNone one other S).2).2.1) one.toNatClampNeg)) - 5) / 4).toNatClampNeg, (r_X7_areNone one other S).2) := by
          rw [r_X7_most, if_pos zc1, if_neg zc2, if_pos zc3]
        exact qq_iret dX7_most_93 rfl rfl ⟨by rw [ze], by rw [ze]; first | exact ms_pr hS9 | exact hS9, fr9⟩
      · refine qq_iconst (v := 2) dX7_most_80 (by decide) ?_
        refine qq_goto (tgt := 93) dX7_most_81 (by decide) ?_
        have ze : r_X7_most one other S = (2, (r_X7_areNone one other S).2) := by
          rw [r_X7_most, if_pos zc1, if_neg zc2, if_neg zc3]
        exact qq_iret dX7_most_93 rfl rfl ⟨by rw [ze], by rw [ze]; first | exact ms_pr hS9 | exact hS9, fr9⟩
    · refine qq_aload_n dX7_most_20 rfl 0 rfl ?_
      refine qq_iconst (v := 2) dX7_most_21 (by decide) ?_
      refine mx_put10 hS1 dX7_most_22 kl_X7_50 (fun hp10 hS10 fq10 => ?_)
      have fr10 := fq10 A
      replace hS10 : ms_M A (((r_X7_areNone one other S).2).1, ((r_X7_areNone one other S).2).2.1, ((r_X7_areNone one other S).2).2.2.1, ((r_X7_areNone one other S).2).2.2.2.1, ((r_X7_areNone one other S).2).2.2.2.2.1, ((r_X7_areNone one other S).2).2.2.2.2.2.1, 2) hp10 := hS10
      refine qq_iconst (v := 0) dX7_most_25 (by decide) ?_
      have ze : r_X7_most one other S = (0, (((r_X7_areNone one other S).2).1, ((r_X7_areNone one other S).2).2.1, ((r_X7_areNone one other S).2).2.2.1, ((r_X7_areNone one other S).2).2.2.2.1, ((r_X7_areNone one other S).2).2.2.2.2.1, ((r_X7_areNone one other S).2).2.2.2.2.2.1, 2)) := by
        rw [r_X7_most, if_pos zc1, if_pos zc2]
      exact qq_iret dX7_most_26 rfl rfl ⟨by rw [ze], by rw [ze]; first | exact ms_pr hS10 | exact hS10, (fr_t fr1 fr10)⟩
  · refine qq_iconst (v := 0) dX7_most_9 (by decide) ?_
    have ze : r_X7_most one other S = (0, (r_X7_areNone one other S).2) := by
      rw [r_X7_most, if_neg zc1]
    exact qq_iret dX7_most_10 rfl rfl ⟨by rw [ze], by rw [ze]; first | exact ms_pr hS1 | exact hS1, fr1⟩
def r_X7_isWithin (one : Int32) (other : Int32)  (S : sM) : Int32 × sM := if ((r_X7_most one other S).1) ≤ 0 then (0, (r_X7_most one other S).2) else (1, (r_X7_most one other S).2)
theorem bz_X7_isWithin (one : Int32) (other : Int32)  (S : sM) : (r_X7_isWithin one other S).1 = 0 ∨ (r_X7_isWithin one other S).1 = 1 := by
  unfold r_X7_isWithin
  exact (qm_i01 (Or.inl rfl) (Or.inr rfl))
set_option maxRecDepth 4000 in
theorem mt_X7_isWithin (hp : qq_H) (A : qA) (S : sM) (hS : ms_M A S hp) (one : Int32) (other : Int32)     (zI : IM S) : qq_Mt mX7_isWithin [.ref 84, .int one, .int other] hp 1 7 (fun v hp' => v = some (.int ((r_X7_isWithin one other S).1)) ∧ ms_M A ((r_X7_isWithin one other S).2) hp' ∧ fr A hp hp') (fun _ _ => False) := by
  refine qq_met pn_X7 (Nat.le_of_ble_eq_true rfl) (Nat.le_of_ble_eq_true rfl) kc_X7_isWithin ?_
  show qq_Go _ hp 1 7 0 [(0, .ref 84), (1, .int one), (2, .int other)] [] _ _
  refine qq_aload_n dX7_isWithin_0 rfl 0 rfl ?_
  refine qq_iload_n dX7_isWithin_1 rfl 1 rfl ?_
  refine qq_iload_n dX7_isWithin_2 rfl 2 rfl ?_
  refine qq_less (bc' := 0 + 1) (bs' := 0 + 7) (by omega) (by omega) ?_
  refine qq_callV (bc := 0) (bs := 0) (mc := 1) (ms := 7) (o := 84) (ci := 4) (N := 11) (T := TX7) (as := [.int one, .int other]) (rest := []) dX7_isWithin_3 hS.2.2.1 (by decide) rfl (mt_X7_most hp A S hS one other zI) rfl kl_X7_246 kn_X7_most ke_X7_most ki_X7 kc_X7_most kd_X7_most rfl (by decide) (by decide) (Nat.le_of_ble_eq_true rfl) (fun v hp1 hv _ _ => ?_) (fun E hp' zx _ _ => zx.elim)
  obtain ⟨rfl, hS1, fr1⟩ := hv
  show qq_Go _ hp1 (0) (0) 6 [(0, .ref 84), (1, .int one), (2, .int other)] [.int ((r_X7_most one other S).1)] _ _
  refine qq_if_le (tgt := 13) dX7_isWithin_6 (by decide) (fun zc1 => ?_) (fun zc1 => ?_)
  · refine qq_iconst (v := 0) dX7_isWithin_13 (by decide) ?_
    have ze : r_X7_isWithin one other S = (0, (r_X7_most one other S).2) := by
      rw [r_X7_isWithin, if_pos zc1]
    exact qq_iret dX7_isWithin_14 rfl rfl ⟨by rw [ze], by rw [ze]; first | exact ms_pr hS1 | exact hS1, fr1⟩
  · refine qq_iconst (v := 1) dX7_isWithin_9 (by decide) ?_
    refine qq_goto (tgt := 14) dX7_isWithin_10 (by decide) ?_
    have ze : r_X7_isWithin one other S = (1, (r_X7_most one other S).2) := by
      rw [r_X7_isWithin, if_neg zc1]
    exact qq_iret dX7_isWithin_14 rfl rfl ⟨by rw [ze], by rw [ze]; first | exact ms_pr hS1 | exact hS1, fr1⟩
def lf_X7_find_19 (cell : Int32) (isL : Int32)  : Nat → Int32 → Int32 → sM → Int32 × Int32
  | 0, fo9, k9, S => (fo9, k9)
  | fu + 1, fo9, k9, S => if 8 ≤ k9 then (fo9, k9) else if (r_X7_areAlike k9 cell S) = 0 then lf_X7_find_19 cell isL fu fo9 (k9 + 1) S else if isL = 0 then if fo9 ≤ k9 then lf_X7_find_19 cell isL fu fo9 (k9 + 1) S else lf_X7_find_19 cell isL fu k9 (k9 + 1) S else if k9 ≤ fo9 then lf_X7_find_19 cell isL fu fo9 (k9 + 1) S else lf_X7_find_19 cell isL fu k9 (k9 + 1) S
set_option maxRecDepth 4000 in
theorem lq_X7_find_19 (cell : Int32) (isL : Int32) (A : qA) (S : sM)  (zc9 : vp_in cell 8) {P : Option Value → qq_H → Prop} {PX : String → qq_H → Prop} : ∀ (fu : Nat) (fo9 : Int32) (k9 : Int32) (hp : qq_H) , ms_M A S hp → ¬ k9 < 0 → ((8 : Int32).toInt - k9.toInt).toNat < fu → ∀ (bc bs : Nat), qq_Go mX7_find hp bc bs 64 [(0, .ref 84), (1, .int cell), (2, .int isL), (3, .int ((lf_X7_find_19 cell isL fu fo9 k9 S).1))] [] P PX → qq_Go mX7_find hp (0 * fu + bc) (0 * fu + bs) 19 [(0, .ref 84), (1, .int cell), (2, .int isL), (3, .int fo9), (4, .int k9)] [] P PX := by
  intro fu
  induction fu with
  | zero => intro fo9 k9 hp hS zp zz; exact absurd zz (Nat.not_lt_zero _)
  | succ fu lqih =>
    intro fo9 k9 hp hS zp zh bc bs hk
    refine qq_iload dX7_find_19 4 rfl ?_
    refine qq_bipush (v := 8) dX7_find_21 (by decide) ?_
    refine qq_icmp_ge (tgt := 64) dX7_find_23 (by decide) (fun zc1 => ?_) (fun zc1 => ?_)
    · have ze : lf_X7_find_19 cell isL (fu + 1) fo9 k9 S = (fo9, k9) := by
        rw [lf_X7_find_19, if_pos zc1]
      rw [ze] at hk
      refine qq_loc [0, 1, 2, 3] rfl ?_
      refine qq_less (bc' := bc) (bs' := bs) (by omega) (by omega) ?_
      exact hk
    · refine qq_aload_n dX7_find_26 rfl 0 rfl ?_
      refine qq_iload dX7_find_27 4 rfl ?_
      refine qq_iload_n dX7_find_29 rfl 1 rfl ?_
      refine qq_less (bc' := bc + 0) (bs' := bs + 0) (by omega) (by omega) ?_
      refine qq_callV (bc := bc) (bs := bs) (mc := 0) (ms := 0) (o := 84) (ci := 4) (N := 11) (T := TX7) (as := [.int k9, .int cell]) (rest := []) dX7_find_30 hS.2.2.1 (by decide) rfl (mt_X7_areAlike hp A S hS k9 cell (qm_in8 zp zc1) zc9) rfl kl_X7_243 kn_X7_areAlike ke_X7_areAlike ki_X7 kc_X7_areAlike kd_X7_areAlike rfl (by decide) (by decide) (Nat.le_of_ble_eq_true rfl) (fun v hp' hv _ _ => ?_) (fun E hp' zx _ _ => zx.elim)
      obtain ⟨rfl, rfl⟩ := hv
      show qq_Go _ hp (bc) (bs) 33 [(0, .ref 84), (1, .int cell), (2, .int isL), (3, .int fo9), (4, .int k9)] [.int (r_X7_areAlike k9 cell S)] _ _
      refine qq_if_eq (tgt := 58) dX7_find_33 (by decide) (fun zc2 => ?_) (fun zc2 => ?_)
      · refine qq_iinc (v := k9 + 1) (loc' := [(0, .ref 84), (1, .int cell), (2, .int isL), (3, .int fo9), (4, .int (k9 + 1))]) dX7_find_58 4 rfl rfl [1, 2, 3, 4, 0] (Nat.le_of_ble_eq_true rfl) rfl ?_
        refine qq_goto (tgt := 19) dX7_find_61 (by decide) ?_
        have ze : lf_X7_find_19 cell isL (fu + 1) fo9 k9 S = lf_X7_find_19 cell isL fu fo9 (k9 + 1) S := by
          rw [lf_X7_find_19, if_neg zc1, if_pos zc2]
        rw [ze] at hk
        refine qq_less (bc' := 0 * fu + bc) (bs' := 0 * fu + bs) (by omega) (by omega) ?_
        exact lqih fo9 (k9 + 1) hp hS (qm_pos zp (by assumption)) (qm_up (by assumption) zh) bc bs hk
      · refine qq_iload_n dX7_find_36 rfl 2 rfl ?_
        refine qq_if_eq (tgt := 49) dX7_find_37 (by decide) (fun zc3 => ?_) (fun zc3 => ?_)
        · refine qq_iload dX7_find_49 4 rfl ?_
          refine qq_iload_n dX7_find_51 rfl 3 rfl ?_
          refine qq_icmp_ge (tgt := 58) dX7_find_52 (by decide) (fun zc4 => ?_) (fun zc4 => ?_)
          · refine qq_iinc (v := k9 + 1) (loc' := [(0, .ref 84), (1, .int cell), (2, .int isL), (3, .int fo9), (4, .int (k9 + 1))]) dX7_find_58 4 rfl rfl [1, 2, 3, 4, 0] (Nat.le_of_ble_eq_true rfl) rfl ?_
            refine qq_goto (tgt := 19) dX7_find_61 (by decide) ?_
            have ze : lf_X7_find_19 cell isL (fu + 1) fo9 k9 S = lf_X7_find_19 cell isL fu fo9 (k9 + 1) S := by
              rw [lf_X7_find_19, if_neg zc1, if_neg zc2, if_pos zc3, if_pos zc4]
            rw [ze] at hk
            refine qq_less (bc' := 0 * fu + bc) (bs' := 0 * fu + bs) (by omega) (by omega) ?_
            exact lqih fo9 (k9 + 1) hp hS (qm_pos zp (by assumption)) (qm_up (by assumption) zh) bc bs hk
          · refine qq_iload dX7_find_55 4 rfl ?_
            refine qq_istore_n (loc' := [(0, .ref 84), (1, .int cell), (2, .int isL), (3, .int k9), (4, .int k9)]) dX7_find_57 rfl [1, 2, 3, 0, 4] (Nat.le_of_ble_eq_true rfl) rfl ?_
            refine qq_iinc (v := k9 + 1) (loc' := [(0, .ref 84), (1, .int cell), (2, .int isL), (3, .int k9), (4, .int (k9 + 1))]) dX7_find_58 4 rfl rfl [1, 2, 3, 4, 0] (Nat.le_of_ble_eq_true rfl) rfl ?_
            refine qq_goto (tgt := 19) dX7_find_61 (by decide) ?_
            have ze : lf_X7_find_19 cell isL (fu + 1) fo9 k9 S = lf_X7_find_19 cell isL fu k9 (k9 + 1) S := by
              rw [lf_X7_find_19, if_neg zc1, if_neg zc2, if_pos zc3, if_neg zc4]
            rw [ze] at hk
            refine qq_less (bc' := 0 * fu + bc) (bs' := 0 * fu + bs) (by omega) (by omega) ?_
            exact lqih k9 (k9 + 1) hp hS (qm_pos zp (by assumption)) (qm_up (by assumption) zh) bc bs hk
        · refine qq_iload dX7_find_40 4 rfl ?_
          refine qq_iload_n dX7_find_42 rfl 3 rfl ?_
          refine qq_icmp_le (tgt := 58) dX7_find_43 (by decide) (fun zc5 => ?_) (fun zc5 => ?_)
          · refine qq_iinc (v := k9 + 1) (loc' := [(0, .ref 84), (1, .int cell), (2, .int isL), (3, .int fo9), (4, .int (k9 + 1))]) dX7_find_58 4 rfl rfl [1, 2, 3, 4, 0] (Nat.le_of_ble_eq_true rfl) rfl ?_
            refine qq_goto (tgt := 19) dX7_find_61 (by decide) ?_
            have ze : lf_X7_find_19 cell isL (fu + 1) fo9 k9 S = lf_X7_find_19 cell isL fu fo9 (k9 + 1) S := by
              rw [lf_X7_find_19, if_neg zc1, if_neg zc2, if_neg zc3, if_pos zc5]
            rw [ze] at hk
            refine qq_less (bc' := 0 * fu + bc) (bs' := 0 * fu + bs) (by omega) (by omega) ?_
            exact lqih fo9 (k9 + 1) hp hS (qm_pos zp (by assumption)) (qm_up (by assumption) zh) bc bs hk
          · refine qq_goto (tgt := 55) dX7_find_46 (by decide) ?_
            refine qq_iload dX7_find_55 4 rfl ?_
            refine qq_istore_n (loc' := [(0, .ref 84), (1, .int cell), (2, .int isL), (3, .int k9), (4, .int k9)]) dX7_find_57 rfl [1, 2, 3, 0, 4] (Nat.le_of_ble_eq_true rfl) rfl ?_
            refine qq_iinc (v := k9 + 1) (loc' := [(0, .ref 84), (1, .int cell), (2, .int isL), (3, .int k9), (4, .int (k9 + 1))]) dX7_find_58 4 rfl rfl [1, 2, 3, 4, 0] (Nat.le_of_ble_eq_true rfl) rfl ?_
            refine qq_goto (tgt := 19) dX7_find_61 (by decide) ?_
            have ze : lf_X7_find_19 cell isL (fu + 1) fo9 k9 S = lf_X7_find_19 cell isL fu k9 (k9 + 1) S := by
              rw [lf_X7_find_19, if_neg zc1, if_neg zc2, if_neg zc3, if_neg zc5]
            rw [ze] at hk
            refine qq_less (bc' := 0 * fu + bc) (bs' := 0 * fu + bs) (by omega) (by omega) ?_
            exact lqih k9 (k9 + 1) hp hS (qm_pos zp (by assumption)) (qm_up (by assumption) zh) bc bs hk
def r_X7_find (cell : Int32) (isL : Int32)  (S : sM) : Int32 × sM := if ((r_X7_isRefused (f_X7_isNoCell cell) (0 : Int32) S).1) = 0 then ((lf_X7_find_19 cell isL 9 cell (0 : Int32) ((r_X7_isRefused (f_X7_isNoCell cell) (0 : Int32) S).2)).1, (r_X7_isRefused (f_X7_isNoCell cell) (0 : Int32) S).2) else (0, (r_X7_isRefused (f_X7_isNoCell cell) (0 : Int32) S).2)
set_option maxRecDepth 4000 in
theorem mt_X7_find (hp : qq_H) (A : qA) (S : sM) (hS : ms_M A S hp) (cell : Int32) (isL : Int32)      : qq_Mt mX7_find [.ref 84, .int cell, .int isL] hp 0 0 (fun v hp' => v = some (.int ((r_X7_find cell isL S).1)) ∧ ms_M A ((r_X7_find cell isL S).2) hp' ∧ fr A hp hp') (fun _ _ => False) := by
  refine qq_met pn_X7 (Nat.le_of_ble_eq_true rfl) (Nat.le_of_ble_eq_true rfl) kc_X7_find ?_
  show qq_Go _ hp 0 0 0 [(0, .ref 84), (1, .int cell), (2, .int isL)] [] _ _
  refine qq_aload_n dX7_find_0 rfl 0 rfl ?_
  refine qq_iload_n dX7_find_1 rfl 1 rfl ?_
  refine qq_less (bc' := 0 + 0) (bs' := 0 + 0) (by omega) (by omega) ?_
  refine qq_callS (bc := 0) (bs := 0) (mc := 0) (ms := 0) (as := [.int cell]) (rest := [.ref 84]) dX7_find_2 (mt_X7_isNoCell hp cell) rfl kl_X7_123 ks_X7_isNoCell ki_X7 kc_X7_isNoCell kd_X7_isNoCell rfl (by decide) (by decide) (Nat.le_of_ble_eq_true rfl) (fun v hp' hv _ _ => ?_) (fun E hp' zx _ _ => zx.elim)
  obtain ⟨rfl, rfl⟩ := hv
  show qq_Go _ hp (0) (0) 5 [(0, .ref 84), (1, .int cell), (2, .int isL)] [.int (f_X7_isNoCell cell), .ref 84] _ _
  refine qq_iconst (v := 0) dX7_find_5 (by decide) ?_
  refine qq_less (bc' := 0 + 0) (bs' := 0 + 0) (by omega) (by omega) ?_
  refine qq_callV (bc := 0) (bs := 0) (mc := 0) (ms := 0) (o := 84) (ci := 4) (N := 11) (T := TX7) (as := [.int (f_X7_isNoCell cell), .int 0]) (rest := []) dX7_find_6 hS.2.2.1 (by decide) rfl (mt_X7_isRefused hp A S hS (f_X7_isNoCell cell) (0 : Int32) ) rfl kl_X7_126 kn_X7_isRefused ke_X7_isRefused ki_X7 kc_X7_isRefused kd_X7_isRefused rfl (by decide) (by decide) (Nat.le_of_ble_eq_true rfl) (fun v hp1 hv _ _ => ?_) (fun E hp' zx _ _ => zx.elim)
  obtain ⟨rfl, hS1, fr1⟩ := hv
  show qq_Go _ hp1 (0) (0) 9 [(0, .ref 84), (1, .int cell), (2, .int isL)] [.int ((r_X7_isRefused (f_X7_isNoCell cell) (0 : Int32) S).1)] _ _
  refine qq_if_eq (tgt := 14) dX7_find_9 (by decide) (fun zc1 => ?_) (fun zc1 => ?_)
  · have zv1 := qx_cell (qx_ref zc1)
    refine qq_iload_n dX7_find_14 rfl 1 rfl ?_
    refine qq_istore_n (loc' := [(0, .ref 84), (1, .int cell), (2, .int isL), (3, .int cell)]) dX7_find_15 rfl [1, 2, 3, 0] (Nat.le_of_ble_eq_true rfl) rfl ?_
    refine qq_iconst (v := 0) dX7_find_16 (by decide) ?_
    refine qq_istore (loc' := [(0, .ref 84), (1, .int cell), (2, .int isL), (3, .int cell), (4, .int 0)]) dX7_find_17 [1, 2, 3, 4, 0] (Nat.le_of_ble_eq_true rfl) rfl ?_
    refine qq_less (bc' := 0 + 0) (bs' := 0 + 0) (by omega) (by omega) ?_
    refine qq_less (bc' := 0 * 9 + (0)) (bs' := 0 * 9 + (0)) (by omega) (by omega) ?_
    refine lq_X7_find_19 cell isL A ((r_X7_isRefused (f_X7_isNoCell cell) (0 : Int32) S).2) zv1 9 cell (0 : Int32) hp1 hS1 (by decide) (by decide) (0) (0) ?_
    show qq_Go _ hp1 (0) (0) 64 [(0, .ref 84), (1, .int cell), (2, .int isL), (3, .int ((lf_X7_find_19 cell isL 9 cell (0 : Int32) ((r_X7_isRefused (f_X7_isNoCell cell) (0 : Int32) S).2)).1))] [] _ _
    refine qq_iload_n dX7_find_64 rfl 3 rfl ?_
    have ze : r_X7_find cell isL S = ((lf_X7_find_19 cell isL 9 cell (0 : Int32) ((r_X7_isRefused (f_X7_isNoCell cell) (0 : Int32) S).2)).1, (r_X7_isRefused (f_X7_isNoCell cell) (0 : Int32) S).2) := by
      rw [r_X7_find, if_pos zc1]
    exact qq_iret dX7_find_65 rfl rfl ⟨by rw [ze], by rw [ze]; first | exact ms_pr hS1 | exact hS1, fr1⟩
  · refine qq_iconst (v := 0) dX7_find_12 (by decide) ?_
    have ze : r_X7_find cell isL S = (0, (r_X7_isRefused (f_X7_isNoCell cell) (0 : Int32) S).2) := by
      rw [r_X7_find, if_neg zc1]
    exact qq_iret dX7_find_13 rfl rfl ⟨by rw [ze], by rw [ze]; first | exact ms_pr hS1 | exact hS1, fr1⟩
def lf_X7_house_78 (what : Int32) (k9 : Int32)  : Nat → Int32 → Int32 → sM → Int32 × Int32
  | 0, mn9, n9, S => (mn9, n9)
  | fu + 1, mn9, n9, S => if what = 4 then if k9 ≤ n9 then (mn9, n9) else if (r_X7_areNear n9 k9 S) = 0 then lf_X7_house_78 what k9 fu (mn9 + 0) (n9 + 1) S else lf_X7_house_78 what k9 fu (mn9 + 1) (n9 + 1) S else (mn9, n9)
set_option maxRecDepth 4000 in
theorem lq_X7_house_78 (what : Int32) (k9 : Int32) (A : qA) (S : sM)  (zk9 : vp_in k9 8) {P : Option Value → qq_H → Prop} {PX : String → qq_H → Prop} : ∀ (fu : Nat) (mn9 : Int32) (n9 : Int32) (hp : qq_H) , ms_M A S hp → ¬ n9 < 0 → (k9.toInt - n9.toInt).toNat < fu → ∀ (bc bs : Nat), qq_Go mX7_house hp bc bs 113 [(0, .ref 84), (1, .int what), (2, .int ((lf_X7_house_78 what k9 fu mn9 n9 S).1)), (3, .int k9)] [] P PX → qq_Go mX7_house hp (0 * fu + bc) (0 * fu + bs) 78 [(0, .ref 84), (1, .int what), (2, .int mn9), (3, .int k9), (4, .int n9)] [] P PX := by
  intro fu
  induction fu with
  | zero => intro mn9 n9 hp hS zn zz; exact absurd zz (Nat.not_lt_zero _)
  | succ fu lqih =>
    intro mn9 n9 hp hS zn zh bc bs hk
    refine qq_iload_n dX7_house_78 rfl 1 rfl ?_
    refine qq_iconst (v := 4) dX7_house_79 (by decide) ?_
    refine qq_icmp_ne (tgt := 113) dX7_house_80 (by decide) (fun zc1 => ?_) (fun zc1 => ?_)
    · have ze : lf_X7_house_78 what k9 (fu + 1) mn9 n9 S = (mn9, n9) := by
        rw [lf_X7_house_78, if_neg zc1]
      rw [ze] at hk
      refine qq_loc [0, 1, 2, 3] rfl ?_
      refine qq_less (bc' := bc) (bs' := bs) (by omega) (by omega) ?_
      exact hk
    · refine qq_iload dX7_house_83 4 rfl ?_
      refine qq_iload_n dX7_house_85 rfl 3 rfl ?_
      refine qq_icmp_ge (tgt := 113) dX7_house_86 (by decide) (fun zc2 => ?_) (fun zc2 => ?_)
      · have ze : lf_X7_house_78 what k9 (fu + 1) mn9 n9 S = (mn9, n9) := by
          rw [lf_X7_house_78, if_pos zc1, if_pos zc2]
        rw [ze] at hk
        refine qq_loc [0, 1, 2, 3] rfl ?_
        refine qq_less (bc' := bc) (bs' := bs) (by omega) (by omega) ?_
        exact hk
      · refine qq_iload_n dX7_house_89 rfl 2 rfl ?_
        refine qq_aload_n dX7_house_90 rfl 0 rfl ?_
        refine qq_iload dX7_house_91 4 rfl ?_
        refine qq_iload_n dX7_house_93 rfl 3 rfl ?_
        refine qq_less (bc' := bc + 0) (bs' := bs + 0) (by omega) (by omega) ?_
        refine qq_callV (bc := bc) (bs := bs) (mc := 0) (ms := 0) (o := 84) (ci := 4) (N := 11) (T := TX7) (as := [.int n9, .int k9]) (rest := [.int mn9]) dX7_house_94 hS.2.2.1 (by decide) rfl (mt_X7_areNear hp A S hS n9 k9 (qm_inlt zn (by assumption) zk9) zk9) rfl kl_X7_240 kn_X7_areNear ke_X7_areNear ki_X7 kc_X7_areNear kd_X7_areNear rfl (by decide) (by decide) (Nat.le_of_ble_eq_true rfl) (fun v hp' hv _ _ => ?_) (fun E hp' zx _ _ => zx.elim)
        obtain ⟨rfl, rfl⟩ := hv
        show qq_Go _ hp (bc) (bs) 97 [(0, .ref 84), (1, .int what), (2, .int mn9), (3, .int k9), (4, .int n9)] [.int (r_X7_areNear n9 k9 S), .int mn9] _ _
        refine qq_if_eq (tgt := 104) dX7_house_97 (by decide) (fun zc3 => ?_) (fun zc3 => ?_)
        · refine qq_iconst (v := 0) dX7_house_104 (by decide) ?_
          refine qq_iadd dX7_house_105 ?_
          refine qq_istore_n (loc' := [(0, .ref 84), (1, .int what), (2, .int (mn9 + 0)), (3, .int k9), (4, .int n9)]) dX7_house_106 rfl [1, 2, 0, 3, 4] (Nat.le_of_ble_eq_true rfl) rfl ?_
          refine qq_iinc (v := n9 + 1) (loc' := [(0, .ref 84), (1, .int what), (2, .int (mn9 + 0)), (3, .int k9), (4, .int (n9 + 1))]) dX7_house_107 4 rfl rfl [1, 2, 3, 4, 0] (Nat.le_of_ble_eq_true rfl) rfl ?_
          refine qq_goto (tgt := 78) dX7_house_110 (by decide) ?_
          have ze : lf_X7_house_78 what k9 (fu + 1) mn9 n9 S = lf_X7_house_78 what k9 fu (mn9 + 0) (n9 + 1) S := by
            rw [lf_X7_house_78, if_pos zc1, if_neg zc2, if_pos zc3]
          rw [ze] at hk
          refine qq_less (bc' := 0 * fu + bc) (bs' := 0 * fu + bs) (by omega) (by omega) ?_
          exact lqih (mn9 + 0) (n9 + 1) hp hS (qm_pos zn (by assumption)) (qm_up (by assumption) zh) bc bs hk
        · refine qq_iconst (v := 1) dX7_house_100 (by decide) ?_
          refine qq_goto (tgt := 105) dX7_house_101 (by decide) ?_
          refine qq_iadd dX7_house_105 ?_
          refine qq_istore_n (loc' := [(0, .ref 84), (1, .int what), (2, .int (mn9 + 1)), (3, .int k9), (4, .int n9)]) dX7_house_106 rfl [1, 2, 0, 3, 4] (Nat.le_of_ble_eq_true rfl) rfl ?_
          refine qq_iinc (v := n9 + 1) (loc' := [(0, .ref 84), (1, .int what), (2, .int (mn9 + 1)), (3, .int k9), (4, .int (n9 + 1))]) dX7_house_107 4 rfl rfl [1, 2, 3, 4, 0] (Nat.le_of_ble_eq_true rfl) rfl ?_
          refine qq_goto (tgt := 78) dX7_house_110 (by decide) ?_
          have ze : lf_X7_house_78 what k9 (fu + 1) mn9 n9 S = lf_X7_house_78 what k9 fu (mn9 + 1) (n9 + 1) S := by
            rw [lf_X7_house_78, if_pos zc1, if_neg zc2, if_neg zc3]
          rw [ze] at hk
          refine qq_less (bc' := 0 * fu + bc) (bs' := 0 * fu + bs) (by omega) (by omega) ?_
          exact lqih (mn9 + 1) (n9 + 1) hp hS (qm_pos zn (by assumption)) (qm_up (by assumption) zh) bc bs hk
def lf_X7_house_52 (what : Int32)  : Nat → Int32 → Int32 → sM → Int32 × Int32
  | 0, mn9, k9, S => (mn9, k9)
  | fu + 1, mn9, k9, S => if 8 ≤ k9 then (mn9, k9) else if what = 3 then if (S.1 k9.toNatClampNeg) = 0 then lf_X7_house_52 what fu ((lf_X7_house_78 what k9 9 (mn9 + 1) (0 : Int32) S).1) (k9 + 1) S else lf_X7_house_52 what fu ((lf_X7_house_78 what k9 9 mn9 (0 : Int32) S).1) (k9 + 1) S else lf_X7_house_52 what fu ((lf_X7_house_78 what k9 9 mn9 (0 : Int32) S).1) (k9 + 1) S
set_option maxRecDepth 4000 in
theorem lq_X7_house_52 (what : Int32) (A : qA) (S : sM)   {P : Option Value → qq_H → Prop} {PX : String → qq_H → Prop} : ∀ (fu : Nat) (mn9 : Int32) (k9 : Int32) (hp : qq_H) , ms_M A S hp → ¬ k9 < 0 → ((8 : Int32).toInt - k9.toInt).toNat < fu → ∀ (bc bs : Nat), qq_Go mX7_house hp bc bs 119 [(0, .ref 84), (1, .int what), (2, .int ((lf_X7_house_52 what fu mn9 k9 S).1))] [] P PX → qq_Go mX7_house hp (0 * fu + bc) (0 * fu + bs) 52 [(0, .ref 84), (1, .int what), (2, .int mn9), (3, .int k9)] [] P PX := by
  intro fu
  induction fu with
  | zero => intro mn9 k9 hp hS zp zz; exact absurd zz (Nat.not_lt_zero _)
  | succ fu lqih =>
    intro mn9 k9 hp hS zp zh bc bs hk
    refine qq_iload_n dX7_house_52 rfl 3 rfl ?_
    refine qq_bipush (v := 8) dX7_house_53 (by decide) ?_
    refine qq_icmp_ge (tgt := 119) dX7_house_55 (by decide) (fun zc1 => ?_) (fun zc1 => ?_)
    · have ze : lf_X7_house_52 what (fu + 1) mn9 k9 S = (mn9, k9) := by
        rw [lf_X7_house_52, if_pos zc1]
      rw [ze] at hk
      refine qq_loc [0, 1, 2] rfl ?_
      refine qq_less (bc' := bc) (bs' := bs) (by omega) (by omega) ?_
      exact hk
    · refine qq_iload_n dX7_house_58 rfl 1 rfl ?_
      refine qq_iconst (v := 3) dX7_house_59 (by decide) ?_
      refine qq_icmp_ne (tgt := 75) dX7_house_60 (by decide) (fun zc2 => ?_) (fun zc2 => ?_)
      · refine qq_iconst (v := 0) dX7_house_75 (by decide) ?_
        refine qq_istore (loc' := [(0, .ref 84), (1, .int what), (2, .int mn9), (3, .int k9), (4, .int 0)]) dX7_house_76 [1, 2, 3, 4, 0] (Nat.le_of_ble_eq_true rfl) rfl ?_
        refine qq_less (bc' := bc + 0) (bs' := bs + 0) (by omega) (by omega) ?_
        refine qq_less (bc' := 0 * 9 + (bc)) (bs' := 0 * 9 + (bs)) (by omega) (by omega) ?_
        refine lq_X7_house_78 what k9 A S (qm_in8 zp zc1) 9 mn9 (0 : Int32) hp hS (by decide) (qm_k8 (qm_in8 zp zc1)) (bc) (bs) ?_
        show qq_Go _ hp (bc) (bs) 113 [(0, .ref 84), (1, .int what), (2, .int ((lf_X7_house_78 what k9 9 mn9 (0 : Int32) S).1)), (3, .int k9)] [] _ _
        refine qq_iinc (v := k9 + 1) (loc' := [(0, .ref 84), (1, .int what), (2, .int ((lf_X7_house_78 what k9 9 mn9 (0 : Int32) S).1)), (3, .int (k9 + 1))]) dX7_house_113 3 rfl rfl [1, 2, 3, 0] (Nat.le_of_ble_eq_true rfl) rfl ?_
        refine qq_goto (tgt := 52) dX7_house_116 (by decide) ?_
        have ze : lf_X7_house_52 what (fu + 1) mn9 k9 S = lf_X7_house_52 what fu ((lf_X7_house_78 what k9 9 mn9 (0 : Int32) S).1) (k9 + 1) S := by
          rw [lf_X7_house_52, if_neg zc1, if_neg zc2]
        rw [ze] at hk
        refine qq_less (bc' := 0 * fu + bc) (bs' := 0 * fu + bs) (by omega) (by omega) ?_
        exact lqih ((lf_X7_house_78 what k9 9 mn9 (0 : Int32) S).1) (k9 + 1) hp hS (qm_pos zp (by assumption)) (qm_up (by assumption) zh) bc bs hk
      · refine qq_aload_n dX7_house_63 rfl 0 rfl ?_
        refine mx_get hS dX7_house_64 4 (by decide) rfl kl_X7_28 ?_
        refine qq_iload_n dX7_house_67 rfl 3 rfl ?_
        refine qq_iald dX7_house_68 hS.2.2.2.1 (qm_in8 zp zc1) ?_
        refine qq_if_ne (tgt := 75) dX7_house_69 (by decide) (fun zc3 => ?_) (fun zc3 => ?_)
        · refine qq_iconst (v := 0) dX7_house_75 (by decide) ?_
          refine qq_istore (loc' := [(0, .ref 84), (1, .int what), (2, .int mn9), (3, .int k9), (4, .int 0)]) dX7_house_76 [1, 2, 3, 4, 0] (Nat.le_of_ble_eq_true rfl) rfl ?_
          refine qq_less (bc' := bc + 0) (bs' := bs + 0) (by omega) (by omega) ?_
          refine qq_less (bc' := 0 * 9 + (bc)) (bs' := 0 * 9 + (bs)) (by omega) (by omega) ?_
          refine lq_X7_house_78 what k9 A S (qm_in8 zp zc1) 9 mn9 (0 : Int32) hp hS (by decide) (qm_k8 (qm_in8 zp zc1)) (bc) (bs) ?_
          show qq_Go _ hp (bc) (bs) 113 [(0, .ref 84), (1, .int what), (2, .int ((lf_X7_house_78 what k9 9 mn9 (0 : Int32) S).1)), (3, .int k9)] [] _ _
          refine qq_iinc (v := k9 + 1) (loc' := [(0, .ref 84), (1, .int what), (2, .int ((lf_X7_house_78 what k9 9 mn9 (0 : Int32) S).1)), (3, .int (k9 + 1))]) dX7_house_113 3 rfl rfl [1, 2, 3, 0] (Nat.le_of_ble_eq_true rfl) rfl ?_
          refine qq_goto (tgt := 52) dX7_house_116 (by decide) ?_
          have ze : lf_X7_house_52 what (fu + 1) mn9 k9 S = lf_X7_house_52 what fu ((lf_X7_house_78 what k9 9 mn9 (0 : Int32) S).1) (k9 + 1) S := by
            rw [lf_X7_house_52, if_neg zc1, if_pos zc2, if_neg zc3]
          rw [ze] at hk
          refine qq_less (bc' := 0 * fu + bc) (bs' := 0 * fu + bs) (by omega) (by omega) ?_
          exact lqih ((lf_X7_house_78 what k9 9 mn9 (0 : Int32) S).1) (k9 + 1) hp hS (qm_pos zp (by assumption)) (qm_up (by assumption) zh) bc bs hk
        · refine qq_iinc (v := mn9 + 1) (loc' := [(0, .ref 84), (1, .int what), (2, .int (mn9 + 1)), (3, .int k9)]) dX7_house_72 2 rfl rfl [1, 2, 0, 3] (Nat.le_of_ble_eq_true rfl) rfl ?_
          refine qq_iconst (v := 0) dX7_house_75 (by decide) ?_
          refine qq_istore (loc' := [(0, .ref 84), (1, .int what), (2, .int (mn9 + 1)), (3, .int k9), (4, .int 0)]) dX7_house_76 [1, 2, 3, 4, 0] (Nat.le_of_ble_eq_true rfl) rfl ?_
          refine qq_less (bc' := bc + 0) (bs' := bs + 0) (by omega) (by omega) ?_
          refine qq_less (bc' := 0 * 9 + (bc)) (bs' := 0 * 9 + (bs)) (by omega) (by omega) ?_
          refine lq_X7_house_78 what k9 A S (qm_in8 zp zc1) 9 (mn9 + 1) (0 : Int32) hp hS (by decide) (qm_k8 (qm_in8 zp zc1)) (bc) (bs) ?_
          show qq_Go _ hp (bc) (bs) 113 [(0, .ref 84), (1, .int what), (2, .int ((lf_X7_house_78 what k9 9 (mn9 + 1) (0 : Int32) S).1)), (3, .int k9)] [] _ _
          refine qq_iinc (v := k9 + 1) (loc' := [(0, .ref 84), (1, .int what), (2, .int ((lf_X7_house_78 what k9 9 (mn9 + 1) (0 : Int32) S).1)), (3, .int (k9 + 1))]) dX7_house_113 3 rfl rfl [1, 2, 3, 0] (Nat.le_of_ble_eq_true rfl) rfl ?_
          refine qq_goto (tgt := 52) dX7_house_116 (by decide) ?_
          have ze : lf_X7_house_52 what (fu + 1) mn9 k9 S = lf_X7_house_52 what fu ((lf_X7_house_78 what k9 9 (mn9 + 1) (0 : Int32) S).1) (k9 + 1) S := by
            rw [lf_X7_house_52, if_neg zc1, if_pos zc2, if_pos zc3]
          rw [ze] at hk
          refine qq_less (bc' := 0 * fu + bc) (bs' := 0 * fu + bs) (by omega) (by omega) ?_
          exact lqih ((lf_X7_house_78 what k9 9 (mn9 + 1) (0 : Int32) S).1) (k9 + 1) hp hS (qm_pos zp (by assumption)) (qm_up (by assumption) zh) bc bs hk
def r_X7_house (what : Int32)  (S : sM) : Int32 × sM := if ((r_X7_isArgument (f_X7_isIn what 0 4) S).1) = 0 then (0, (r_X7_isArgument (f_X7_isIn what 0 4) S).2) else if 3 ≤ what then ((lf_X7_house_52 what 9 (0 : Int32) (0 : Int32) ((r_X7_isArgument (f_X7_isIn what 0 4) S).2)).1, (r_X7_isArgument (f_X7_isIn what 0 4) S).2) else if what = 0 then (((r_X7_isArgument (f_X7_isIn what 0 4) S).2).2.2.2.1, (r_X7_isArgument (f_X7_isIn what 0 4) S).2) else if what = 1 then (((r_X7_isArgument (f_X7_isIn what 0 4) S).2).2.2.2.2.1, (r_X7_isArgument (f_X7_isIn what 0 4) S).2) else (((r_X7_isArgument (f_X7_isIn what 0 4) S).2).2.2.2.2.2.1, (r_X7_isArgument (f_X7_isIn what 0 4) S).2)
set_option maxRecDepth 4000 in
theorem mt_X7_house (hp : qq_H) (A : qA) (S : sM) (hS : ms_M A S hp) (what : Int32)      : qq_Mt mX7_house [.ref 84, .int what] hp 0 0 (fun v hp' => v = some (.int ((r_X7_house what S).1)) ∧ ms_M A ((r_X7_house what S).2) hp' ∧ fr A hp hp') (fun _ _ => False) := by
  refine qq_met pn_X7 (Nat.le_of_ble_eq_true rfl) (Nat.le_of_ble_eq_true rfl) kc_X7_house ?_
  show qq_Go _ hp 0 0 0 [(0, .ref 84), (1, .int what)] [] _ _
  refine qq_aload_n dX7_house_0 rfl 0 rfl ?_
  refine qq_iload_n dX7_house_1 rfl 1 rfl ?_
  refine qq_iconst (v := 0) dX7_house_2 (by decide) ?_
  refine qq_iconst (v := 4) dX7_house_3 (by decide) ?_
  refine qq_less (bc' := 0 + 0) (bs' := 0 + 0) (by omega) (by omega) ?_
  refine qq_callS (bc := 0) (bs := 0) (mc := 0) (ms := 0) (as := [.int what, .int 0, .int 4]) (rest := [.ref 84]) dX7_house_4 (mt_X7_isIn hp what (0 : Int32) (4 : Int32)) rfl kl_X7_113 ks_X7_isIn ki_X7 kc_X7_isIn kd_X7_isIn rfl (by decide) (by decide) (Nat.le_of_ble_eq_true rfl) (fun v hp' hv _ _ => ?_) (fun E hp' zx _ _ => zx.elim)
  obtain ⟨rfl, rfl⟩ := hv
  show qq_Go _ hp (0) (0) 7 [(0, .ref 84), (1, .int what)] [.int (f_X7_isIn what 0 4), .ref 84] _ _
  refine qq_less (bc' := 0 + 0) (bs' := 0 + 0) (by omega) (by omega) ?_
  refine qq_callV (bc := 0) (bs := 0) (mc := 0) (ms := 0) (o := 84) (ci := 4) (N := 11) (T := TX7) (as := [.int (f_X7_isIn what 0 4)]) (rest := []) dX7_house_7 hS.2.2.1 (by decide) rfl (mt_X7_isArgument hp A S hS (f_X7_isIn what 0 4) (bz_X7_isIn what 0 4)) rfl kl_X7_262 kn_X7_isArgument ke_X7_isArgument ki_X7 kc_X7_isArgument kd_X7_isArgument rfl (by decide) (by decide) (Nat.le_of_ble_eq_true rfl) (fun v hp1 hv _ _ => ?_) (fun E hp' zx _ _ => zx.elim)
  obtain ⟨rfl, hS1, fr1⟩ := hv
  show qq_Go _ hp1 (0) (0) 10 [(0, .ref 84), (1, .int what)] [.int ((r_X7_isArgument (f_X7_isIn what 0 4) S).1)] _ _
  refine qq_if_ne (tgt := 15) dX7_house_10 (by decide) (fun zc1 => ?_) (fun zc1 => ?_)
  · have za1 := qx_an zc1
    refine qq_iload_n dX7_house_15 rfl 1 rfl ?_
    refine qq_iconst (v := 3) dX7_house_16 (by decide) ?_
    refine qq_icmp_ge (tgt := 48) dX7_house_17 (by decide) (fun zc2 => ?_) (fun zc2 => ?_)
    · refine qq_iconst (v := 0) dX7_house_48 (by decide) ?_
      refine qq_istore_n (loc' := [(0, .ref 84), (1, .int what), (2, .int 0)]) dX7_house_49 rfl [1, 2, 0] (Nat.le_of_ble_eq_true rfl) rfl ?_
      refine qq_iconst (v := 0) dX7_house_50 (by decide) ?_
      refine qq_istore_n (loc' := [(0, .ref 84), (1, .int what), (2, .int 0), (3, .int 0)]) dX7_house_51 rfl [1, 2, 3, 0] (Nat.le_of_ble_eq_true rfl) rfl ?_
      refine qq_less (bc' := 0 + 0) (bs' := 0 + 0) (by omega) (by omega) ?_
      refine qq_less (bc' := 0 * 9 + (0)) (bs' := 0 * 9 + (0)) (by omega) (by omega) ?_
      refine lq_X7_house_52 what A ((r_X7_isArgument (f_X7_isIn what 0 4) S).2) 9 (0 : Int32) (0 : Int32) hp1 hS1 (by decide) (by decide) (0) (0) ?_
      show qq_Go _ hp1 (0) (0) 119 [(0, .ref 84), (1, .int what), (2, .int ((lf_X7_house_52 what 9 (0 : Int32) (0 : Int32) ((r_X7_isArgument (f_X7_isIn what 0 4) S).2)).1))] [] _ _
      refine qq_iload_n dX7_house_119 rfl 2 rfl ?_
      have ze : r_X7_house what S = ((lf_X7_house_52 what 9 (0 : Int32) (0 : Int32) ((r_X7_isArgument (f_X7_isIn what 0 4) S).2)).1, (r_X7_isArgument (f_X7_isIn what 0 4) S).2) := by
        rw [r_X7_house, if_neg zc1, if_pos zc2]
      exact qq_iret dX7_house_120 rfl rfl ⟨by rw [ze], by rw [ze]; first | exact ms_pr hS1 | exact hS1, fr1⟩
    · refine qq_iload_n dX7_house_20 rfl 1 rfl ?_
      refine qq_if_ne (tgt := 31) dX7_house_21 (by decide) (fun zc3 => ?_) (fun zc3 => ?_)
      · refine qq_iload_n dX7_house_31 rfl 1 rfl ?_
        refine qq_iconst (v := 1) dX7_house_32 (by decide) ?_
        refine qq_icmp_ne (tgt := 43) dX7_house_33 (by decide) (fun zc4 => ?_) (fun zc4 => ?_)
        · refine qq_aload_n dX7_house_43 rfl 0 rfl ?_
          refine mx_get hS1 dX7_house_44 9 (by decide) rfl kl_X7_266 ?_
          have ze : r_X7_house what S = (((r_X7_isArgument (f_X7_isIn what 0 4) S).2).2.2.2.2.2.1, (r_X7_isArgument (f_X7_isIn what 0 4) S).2) := by
            rw [r_X7_house, if_neg zc1, if_neg zc2, if_neg zc3, if_neg zc4]
          exact qq_iret dX7_house_47 rfl rfl ⟨by rw [ze], by rw [ze]; first | exact ms_pr hS1 | exact hS1, fr1⟩
        · refine qq_aload_n dX7_house_36 rfl 0 rfl ?_
          refine mx_get hS1 dX7_house_37 8 (by decide) rfl kl_X7_120 ?_
          refine qq_goto (tgt := 47) dX7_house_40 (by decide) ?_
          have ze : r_X7_house what S = (((r_X7_isArgument (f_X7_isIn what 0 4) S).2).2.2.2.2.1, (r_X7_isArgument (f_X7_isIn what 0 4) S).2) := by
            rw [r_X7_house, if_neg zc1, if_neg zc2, if_neg zc3, if_pos zc4]
          exact qq_iret dX7_house_47 rfl rfl ⟨by rw [ze], by rw [ze]; first | exact ms_pr hS1 | exact hS1, fr1⟩
      · refine qq_aload_n dX7_house_24 rfl 0 rfl ?_
        refine mx_get hS1 dX7_house_25 7 (by decide) rfl kl_X7_117 ?_
        refine qq_goto (tgt := 47) dX7_house_28 (by decide) ?_
        have ze : r_X7_house what S = (((r_X7_isArgument (f_X7_isIn what 0 4) S).2).2.2.2.1, (r_X7_isArgument (f_X7_isIn what 0 4) S).2) := by
          rw [r_X7_house, if_neg zc1, if_neg zc2, if_pos zc3]
        exact qq_iret dX7_house_47 rfl rfl ⟨by rw [ze], by rw [ze]; first | exact ms_pr hS1 | exact hS1, fr1⟩
  · refine qq_iconst (v := 0) dX7_house_13 (by decide) ?_
    have ze : r_X7_house what S = (0, (r_X7_isArgument (f_X7_isIn what 0 4) S).2) := by
      rw [r_X7_house, if_pos zc1]
    exact qq_iret dX7_house_14 rfl rfl ⟨by rw [ze], by rw [ze]; first | exact ms_pr hS1 | exact hS1, fr1⟩
def r_X7_isSound   (S : sM) : Int32 × sM := (1, (S.1, S.2.1, S.2.2.1, S.2.2.2.1, S.2.2.2.2.1, S.2.2.2.2.2.1, 0))
set_option maxRecDepth 4000 in
theorem mt_X7_isSound (hp : qq_H) (A : qA) (S : sM) (hS : ms_M A S hp)       : qq_Mt mX7_isSound [.ref 84] hp 0 0 (fun v hp' => v = some (.int ((r_X7_isSound S).1)) ∧ ms_M A ((r_X7_isSound S).2) hp' ∧ fr A hp hp') (fun _ _ => False) := by
  refine qq_met pn_X7 (Nat.le_of_ble_eq_true rfl) (Nat.le_of_ble_eq_true rfl) kc_X7_isSound ?_
  show qq_Go _ hp 0 0 0 [(0, .ref 84)] [] _ _
  refine qq_aload_n dX7_isSound_0 rfl 0 rfl ?_
  refine qq_iconst (v := 0) dX7_isSound_1 (by decide) ?_
  refine mx_put10 hS dX7_isSound_2 kl_X7_50 (fun hp1 hS1 fq1 => ?_)
  have fr1 := fq1 A
  replace hS1 : ms_M A (S.1, S.2.1, S.2.2.1, S.2.2.2.1, S.2.2.2.2.1, S.2.2.2.2.2.1, 0) hp1 := hS1
  refine qq_iconst (v := 1) dX7_isSound_5 (by decide) ?_
  have ze : r_X7_isSound S = (1, (S.1, S.2.1, S.2.2.1, S.2.2.2.1, S.2.2.2.2.1, S.2.2.2.2.2.1, 0)) := by
    rw [r_X7_isSound]
  exact qq_iret dX7_isSound_6 rfl rfl ⟨by rw [ze], by rw [ze]; first | exact ms_pr hS1 | exact hS1, fr1⟩
def r_X7_undone (q9 : Int32)  (S : sM) : Int32 × sM := ((r_X7_isArgument (f_X7_isIn q9 (-4) 144) S).1, (r_X7_isArgument (f_X7_isIn q9 (-4) 144) S).2)
set_option maxRecDepth 4000 in
theorem mt_X7_undone (hp : qq_H) (A : qA) (S : sM) (hS : ms_M A S hp) (q9 : Int32)      : qq_Mt mX7_undone [.ref 84, .int q9] hp 0 0 (fun v hp' => v = some (.int ((r_X7_undone q9 S).1)) ∧ ms_M A ((r_X7_undone q9 S).2) hp' ∧ fr A hp hp') (fun _ _ => False) := by
  refine qq_met pn_X7 (Nat.le_of_ble_eq_true rfl) (Nat.le_of_ble_eq_true rfl) kc_X7_undone ?_
  show qq_Go _ hp 0 0 0 [(0, .ref 84), (1, .int q9)] [] _ _
  refine qq_aload_n dX7_undone_0 rfl 0 rfl ?_
  refine qq_iload_n dX7_undone_1 rfl 1 rfl ?_
  refine qq_bipush (v := (-4)) dX7_undone_2 (by decide) ?_
  refine qq_sipush (v := 144) dX7_undone_4 (by decide) ?_
  refine qq_less (bc' := 0 + 0) (bs' := 0 + 0) (by omega) (by omega) ?_
  refine qq_callS (bc := 0) (bs := 0) (mc := 0) (ms := 0) (as := [.int q9, .int (-4), .int 144]) (rest := [.ref 84]) dX7_undone_7 (mt_X7_isIn hp q9 (-4 : Int32) (144 : Int32)) rfl kl_X7_113 ks_X7_isIn ki_X7 kc_X7_isIn kd_X7_isIn rfl (by decide) (by decide) (Nat.le_of_ble_eq_true rfl) (fun v hp' hv _ _ => ?_) (fun E hp' zx _ _ => zx.elim)
  obtain ⟨rfl, rfl⟩ := hv
  show qq_Go _ hp (0) (0) 10 [(0, .ref 84), (1, .int q9)] [.int (f_X7_isIn q9 (-4) 144), .ref 84] _ _
  refine qq_less (bc' := 0 + 0) (bs' := 0 + 0) (by omega) (by omega) ?_
  refine qq_callV (bc := 0) (bs := 0) (mc := 0) (ms := 0) (o := 84) (ci := 4) (N := 11) (T := TX7) (as := [.int (f_X7_isIn q9 (-4) 144)]) (rest := []) dX7_undone_10 hS.2.2.1 (by decide) rfl (mt_X7_isArgument hp A S hS (f_X7_isIn q9 (-4) 144) (bz_X7_isIn q9 (-4) 144)) rfl kl_X7_262 kn_X7_isArgument ke_X7_isArgument ki_X7 kc_X7_isArgument kd_X7_isArgument rfl (by decide) (by decide) (Nat.le_of_ble_eq_true rfl) (fun v hp1 hv _ _ => ?_) (fun E hp' zx _ _ => zx.elim)
  obtain ⟨rfl, hS1, fr1⟩ := hv
  show qq_Go _ hp1 (0) (0) 13 [(0, .ref 84), (1, .int q9)] [.int ((r_X7_isArgument (f_X7_isIn q9 (-4) 144) S).1)] _ _
  have ze : r_X7_undone q9 S = ((r_X7_isArgument (f_X7_isIn q9 (-4) 144) S).1, (r_X7_isArgument (f_X7_isIn q9 (-4) 144) S).2) := by
    rw [r_X7_undone]
  exact qq_iret dX7_undone_13 rfl (qq_nz (bz_X7_isArgument (bz_X7_isIn _ _ _))) ⟨by rw [ze], by rw [ze]; first | exact ms_pr hS1 | exact hS1, fr1⟩
def r_X7_comesBack (q9 : Int32)  (S : sM) : Int32 × sM := ((r_X7_isArgument (f_X7_isIn q9 (-32) (-5)) S).1, (r_X7_isArgument (f_X7_isIn q9 (-32) (-5)) S).2)
set_option maxRecDepth 4000 in
theorem mt_X7_comesBack (hp : qq_H) (A : qA) (S : sM) (hS : ms_M A S hp) (q9 : Int32)      : qq_Mt mX7_comesBack [.ref 84, .int q9] hp 0 0 (fun v hp' => v = some (.int ((r_X7_comesBack q9 S).1)) ∧ ms_M A ((r_X7_comesBack q9 S).2) hp' ∧ fr A hp hp') (fun _ _ => False) := by
  refine qq_met pn_X7 (Nat.le_of_ble_eq_true rfl) (Nat.le_of_ble_eq_true rfl) kc_X7_comesBack ?_
  show qq_Go _ hp 0 0 0 [(0, .ref 84), (1, .int q9)] [] _ _
  refine qq_aload_n dX7_comesBack_0 rfl 0 rfl ?_
  refine qq_iload_n dX7_comesBack_1 rfl 1 rfl ?_
  refine qq_bipush (v := (-32)) dX7_comesBack_2 (by decide) ?_
  refine qq_bipush (v := (-5)) dX7_comesBack_4 (by decide) ?_
  refine qq_less (bc' := 0 + 0) (bs' := 0 + 0) (by omega) (by omega) ?_
  refine qq_callS (bc := 0) (bs := 0) (mc := 0) (ms := 0) (as := [.int q9, .int (-32), .int (-5)]) (rest := [.ref 84]) dX7_comesBack_6 (mt_X7_isIn hp q9 (-32 : Int32) (-5 : Int32)) rfl kl_X7_113 ks_X7_isIn ki_X7 kc_X7_isIn kd_X7_isIn rfl (by decide) (by decide) (Nat.le_of_ble_eq_true rfl) (fun v hp' hv _ _ => ?_) (fun E hp' zx _ _ => zx.elim)
  obtain ⟨rfl, rfl⟩ := hv
  show qq_Go _ hp (0) (0) 9 [(0, .ref 84), (1, .int q9)] [.int (f_X7_isIn q9 (-32) (-5)), .ref 84] _ _
  refine qq_less (bc' := 0 + 0) (bs' := 0 + 0) (by omega) (by omega) ?_
  refine qq_callV (bc := 0) (bs := 0) (mc := 0) (ms := 0) (o := 84) (ci := 4) (N := 11) (T := TX7) (as := [.int (f_X7_isIn q9 (-32) (-5))]) (rest := []) dX7_comesBack_9 hS.2.2.1 (by decide) rfl (mt_X7_isArgument hp A S hS (f_X7_isIn q9 (-32) (-5)) (bz_X7_isIn q9 (-32) (-5))) rfl kl_X7_262 kn_X7_isArgument ke_X7_isArgument ki_X7 kc_X7_isArgument kd_X7_isArgument rfl (by decide) (by decide) (Nat.le_of_ble_eq_true rfl) (fun v hp1 hv _ _ => ?_) (fun E hp' zx _ _ => zx.elim)
  obtain ⟨rfl, hS1, fr1⟩ := hv
  show qq_Go _ hp1 (0) (0) 12 [(0, .ref 84), (1, .int q9)] [.int ((r_X7_isArgument (f_X7_isIn q9 (-32) (-5)) S).1)] _ _
  have ze : r_X7_comesBack q9 S = ((r_X7_isArgument (f_X7_isIn q9 (-32) (-5)) S).1, (r_X7_isArgument (f_X7_isIn q9 (-32) (-5)) S).2) := by
    rw [r_X7_comesBack]
  exact qq_iret dX7_comesBack_12 rfl (qq_nz (bz_X7_isArgument (bz_X7_isIn _ _ _))) ⟨by rw [ze], by rw [ze]; first | exact ms_pr hS1 | exact hS1, fr1⟩
def r_X7_comesForth (q9 : Int32)  (S : sM) : Int32 × sM := ((r_X7_isArgument (f_X7_isIn q9 (-3) 160) S).1, (r_X7_isArgument (f_X7_isIn q9 (-3) 160) S).2)
set_option maxRecDepth 4000 in
theorem mt_X7_comesForth (hp : qq_H) (A : qA) (S : sM) (hS : ms_M A S hp) (q9 : Int32)      : qq_Mt mX7_comesForth [.ref 84, .int q9] hp 0 0 (fun v hp' => v = some (.int ((r_X7_comesForth q9 S).1)) ∧ ms_M A ((r_X7_comesForth q9 S).2) hp' ∧ fr A hp hp') (fun _ _ => False) := by
  refine qq_met pn_X7 (Nat.le_of_ble_eq_true rfl) (Nat.le_of_ble_eq_true rfl) kc_X7_comesForth ?_
  show qq_Go _ hp 0 0 0 [(0, .ref 84), (1, .int q9)] [] _ _
  refine qq_aload_n dX7_comesForth_0 rfl 0 rfl ?_
  refine qq_iload_n dX7_comesForth_1 rfl 1 rfl ?_
  refine qq_bipush (v := (-3)) dX7_comesForth_2 (by decide) ?_
  refine qq_sipush (v := 160) dX7_comesForth_4 (by decide) ?_
  refine qq_less (bc' := 0 + 0) (bs' := 0 + 0) (by omega) (by omega) ?_
  refine qq_callS (bc := 0) (bs := 0) (mc := 0) (ms := 0) (as := [.int q9, .int (-3), .int 160]) (rest := [.ref 84]) dX7_comesForth_7 (mt_X7_isIn hp q9 (-3 : Int32) (160 : Int32)) rfl kl_X7_113 ks_X7_isIn ki_X7 kc_X7_isIn kd_X7_isIn rfl (by decide) (by decide) (Nat.le_of_ble_eq_true rfl) (fun v hp' hv _ _ => ?_) (fun E hp' zx _ _ => zx.elim)
  obtain ⟨rfl, rfl⟩ := hv
  show qq_Go _ hp (0) (0) 10 [(0, .ref 84), (1, .int q9)] [.int (f_X7_isIn q9 (-3) 160), .ref 84] _ _
  refine qq_less (bc' := 0 + 0) (bs' := 0 + 0) (by omega) (by omega) ?_
  refine qq_callV (bc := 0) (bs := 0) (mc := 0) (ms := 0) (o := 84) (ci := 4) (N := 11) (T := TX7) (as := [.int (f_X7_isIn q9 (-3) 160)]) (rest := []) dX7_comesForth_10 hS.2.2.1 (by decide) rfl (mt_X7_isArgument hp A S hS (f_X7_isIn q9 (-3) 160) (bz_X7_isIn q9 (-3) 160)) rfl kl_X7_262 kn_X7_isArgument ke_X7_isArgument ki_X7 kc_X7_isArgument kd_X7_isArgument rfl (by decide) (by decide) (Nat.le_of_ble_eq_true rfl) (fun v hp1 hv _ _ => ?_) (fun E hp' zx _ _ => zx.elim)
  obtain ⟨rfl, hS1, fr1⟩ := hv
  show qq_Go _ hp1 (0) (0) 13 [(0, .ref 84), (1, .int q9)] [.int ((r_X7_isArgument (f_X7_isIn q9 (-3) 160) S).1)] _ _
  have ze : r_X7_comesForth q9 S = ((r_X7_isArgument (f_X7_isIn q9 (-3) 160) S).1, (r_X7_isArgument (f_X7_isIn q9 (-3) 160) S).2) := by
    rw [r_X7_comesForth]
  exact qq_iret dX7_comesForth_13 rfl (qq_nz (bz_X7_isArgument (bz_X7_isIn _ _ _))) ⟨by rw [ze], by rw [ze]; first | exact ms_pr hS1 | exact hS1, fr1⟩
def r_X7_opposite (q9 : Int32)  (S : sM) : Int32 × sM := ((r_X7_isArgument (f_X7_isIn q9 (-160) 160) S).1, (r_X7_isArgument (f_X7_isIn q9 (-160) 160) S).2)
set_option maxRecDepth 4000 in
theorem mt_X7_opposite (hp : qq_H) (A : qA) (S : sM) (hS : ms_M A S hp) (q9 : Int32)      : qq_Mt mX7_opposite [.ref 84, .int q9] hp 0 0 (fun v hp' => v = some (.int ((r_X7_opposite q9 S).1)) ∧ ms_M A ((r_X7_opposite q9 S).2) hp' ∧ fr A hp hp') (fun _ _ => False) := by
  refine qq_met pn_X7 (Nat.le_of_ble_eq_true rfl) (Nat.le_of_ble_eq_true rfl) kc_X7_opposite ?_
  show qq_Go _ hp 0 0 0 [(0, .ref 84), (1, .int q9)] [] _ _
  refine qq_aload_n dX7_opposite_0 rfl 0 rfl ?_
  refine qq_iload_n dX7_opposite_1 rfl 1 rfl ?_
  refine qq_sipush (v := (-160)) dX7_opposite_2 (by decide) ?_
  refine qq_sipush (v := 160) dX7_opposite_5 (by decide) ?_
  refine qq_less (bc' := 0 + 0) (bs' := 0 + 0) (by omega) (by omega) ?_
  refine qq_callS (bc := 0) (bs := 0) (mc := 0) (ms := 0) (as := [.int q9, .int (-160), .int 160]) (rest := [.ref 84]) dX7_opposite_8 (mt_X7_isIn hp q9 (-160 : Int32) (160 : Int32)) rfl kl_X7_113 ks_X7_isIn ki_X7 kc_X7_isIn kd_X7_isIn rfl (by decide) (by decide) (Nat.le_of_ble_eq_true rfl) (fun v hp' hv _ _ => ?_) (fun E hp' zx _ _ => zx.elim)
  obtain ⟨rfl, rfl⟩ := hv
  show qq_Go _ hp (0) (0) 11 [(0, .ref 84), (1, .int q9)] [.int (f_X7_isIn q9 (-160) 160), .ref 84] _ _
  refine qq_less (bc' := 0 + 0) (bs' := 0 + 0) (by omega) (by omega) ?_
  refine qq_callV (bc := 0) (bs := 0) (mc := 0) (ms := 0) (o := 84) (ci := 4) (N := 11) (T := TX7) (as := [.int (f_X7_isIn q9 (-160) 160)]) (rest := []) dX7_opposite_11 hS.2.2.1 (by decide) rfl (mt_X7_isArgument hp A S hS (f_X7_isIn q9 (-160) 160) (bz_X7_isIn q9 (-160) 160)) rfl kl_X7_262 kn_X7_isArgument ke_X7_isArgument ki_X7 kc_X7_isArgument kd_X7_isArgument rfl (by decide) (by decide) (Nat.le_of_ble_eq_true rfl) (fun v hp1 hv _ _ => ?_) (fun E hp' zx _ _ => zx.elim)
  obtain ⟨rfl, hS1, fr1⟩ := hv
  show qq_Go _ hp1 (0) (0) 14 [(0, .ref 84), (1, .int q9)] [.int ((r_X7_isArgument (f_X7_isIn q9 (-160) 160) S).1)] _ _
  have ze : r_X7_opposite q9 S = ((r_X7_isArgument (f_X7_isIn q9 (-160) 160) S).1, (r_X7_isArgument (f_X7_isIn q9 (-160) 160) S).2) := by
    rw [r_X7_opposite]
  exact qq_iret dX7_opposite_14 rfl (qq_nz (bz_X7_isArgument (bz_X7_isIn _ _ _))) ⟨by rw [ze], by rw [ze]; first | exact ms_pr hS1 | exact hS1, fr1⟩