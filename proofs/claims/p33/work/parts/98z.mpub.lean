def r_X7_quarter (cell : Int32) (q9 : Int32)  (S : sM) : Int32 × sM := if (f_X7_isIn q9 (-160) 160) = 0 then if ((r_X7_isRefused (f_X7_isNoCell cell) (1 : Int32) S).1) = 0 then (0, (r_X7_isRefused (f_X7_isNoCell cell) (1 : Int32) S).2) else (0, (r_X7_isRefused (f_X7_isNoCell cell) (1 : Int32) S).2) else if ((r_X7_isRefused (f_X7_isNoCell cell) (0 : Int32) S).1) = 0 then ((r_X7_come cell (0 : Int32) q9 (0 : Int32) ((r_X7_isRefused (f_X7_isNoCell cell) (0 : Int32) S).2)).1, (r_X7_come cell (0 : Int32) q9 (0 : Int32) ((r_X7_isRefused (f_X7_isNoCell cell) (0 : Int32) S).2)).2) else (0, (r_X7_isRefused (f_X7_isNoCell cell) (0 : Int32) S).2)
set_option maxRecDepth 4000 in
theorem mt_X7_quarter (hp : qq_H) (A : qA) (S : sM) (hS : ms_M A S hp) (cell : Int32) (q9 : Int32)      : qq_Mt mX7_quarter [.ref 84, .int cell, .int q9] hp 0 0 (fun v hp' => v = some (.int ((r_X7_quarter cell q9 S).1)) ∧ ms_M A ((r_X7_quarter cell q9 S).2) hp' ∧ fr A hp hp') (fun _ _ => False) := by
  refine qq_met pn_X7 (Nat.le_of_ble_eq_true rfl) (Nat.le_of_ble_eq_true rfl) kc_X7_quarter ?_
  show qq_Go _ hp 0 0 0 [(0, .ref 84), (1, .int cell), (2, .int q9)] [] _ _
  refine qq_aload_n dX7_quarter_0 rfl 0 rfl ?_
  refine qq_iload_n dX7_quarter_1 rfl 1 rfl ?_
  refine qq_less (bc' := 0 + 0) (bs' := 0 + 0) (by omega) (by omega) ?_
  refine qq_callS (bc := 0) (bs := 0) (mc := 0) (ms := 0) (as := [.int cell]) (rest := [.ref 84]) dX7_quarter_2 (mt_X7_isNoCell hp cell) rfl kl_X7_123 ks_X7_isNoCell ki_X7 kc_X7_isNoCell kd_X7_isNoCell rfl (by decide) (by decide) (Nat.le_of_ble_eq_true rfl) (fun v hp' hv _ _ => ?_) (fun E hp' zx _ _ => zx.elim)
  obtain ⟨rfl, rfl⟩ := hv
  show qq_Go _ hp (0) (0) 5 [(0, .ref 84), (1, .int cell), (2, .int q9)] [.int (f_X7_isNoCell cell), .ref 84] _ _
  refine qq_iload_n dX7_quarter_5 rfl 2 rfl ?_
  refine qq_sipush (v := (-160)) dX7_quarter_6 (by decide) ?_
  refine qq_sipush (v := 160) dX7_quarter_9 (by decide) ?_
  refine qq_less (bc' := 0 + 0) (bs' := 0 + 0) (by omega) (by omega) ?_
  refine qq_callS (bc := 0) (bs := 0) (mc := 0) (ms := 0) (as := [.int q9, .int (-160), .int 160]) (rest := [.int (f_X7_isNoCell cell), .ref 84]) dX7_quarter_12 (mt_X7_isIn hp q9 (-160 : Int32) (160 : Int32)) rfl kl_X7_113 ks_X7_isIn ki_X7 kc_X7_isIn kd_X7_isIn rfl (by decide) (by decide) (Nat.le_of_ble_eq_true rfl) (fun v hp' hv _ _ => ?_) (fun E hp' zx _ _ => zx.elim)
  obtain ⟨rfl, rfl⟩ := hv
  show qq_Go _ hp (0) (0) 15 [(0, .ref 84), (1, .int cell), (2, .int q9)] [.int (f_X7_isIn q9 (-160) 160), .int (f_X7_isNoCell cell), .ref 84] _ _
  refine qq_if_ne (tgt := 22) dX7_quarter_15 (by decide) (fun zc1 => ?_) (fun zc1 => ?_)
  · refine qq_iconst (v := 0) dX7_quarter_22 (by decide) ?_
    refine qq_less (bc' := 0 + 0) (bs' := 0 + 0) (by omega) (by omega) ?_
    refine qq_callV (bc := 0) (bs := 0) (mc := 0) (ms := 0) (o := 84) (ci := 4) (N := 11) (T := TX7) (as := [.int (f_X7_isNoCell cell), .int 0]) (rest := []) dX7_quarter_23 hS.2.2.1 (by decide) rfl (mt_X7_isRefused hp A S hS (f_X7_isNoCell cell) (0 : Int32) ) rfl kl_X7_126 kn_X7_isRefused ke_X7_isRefused ki_X7 kc_X7_isRefused kd_X7_isRefused rfl (by decide) (by decide) (Nat.le_of_ble_eq_true rfl) (fun v hp1 hv _ _ => ?_) (fun E hp' zx _ _ => zx.elim)
    obtain ⟨rfl, hS1, fr1⟩ := hv
    show qq_Go _ hp1 (0) (0) 26 [(0, .ref 84), (1, .int cell), (2, .int q9)] [.int ((r_X7_isRefused (f_X7_isNoCell cell) (0 : Int32) S).1)] _ _
    refine qq_if_eq (tgt := 33) dX7_quarter_26 (by decide) (fun zc2 => ?_) (fun zc2 => ?_)
    · have zv1 := qx_cell (qx_ref zc2)
      refine qq_aload_n dX7_quarter_33 rfl 0 rfl ?_
      refine qq_iload_n dX7_quarter_34 rfl 1 rfl ?_
      refine qq_iconst (v := 0) dX7_quarter_35 (by decide) ?_
      refine qq_iload_n dX7_quarter_36 rfl 2 rfl ?_
      refine qq_iconst (v := 0) dX7_quarter_37 (by decide) ?_
      refine qq_less (bc' := 0 + 0) (bs' := 0 + 0) (by omega) (by omega) ?_
      refine qq_callV (bc := 0) (bs := 0) (mc := 0) (ms := 0) (o := 84) (ci := 4) (N := 11) (T := TX7) (as := [.int cell, .int 0, .int q9, .int 0]) (rest := []) dX7_quarter_38 hS1.2.2.1 (by decide) rfl (mt_X7_come hp1 A ((r_X7_isRefused (f_X7_isNoCell cell) (0 : Int32) S).2) hS1 cell (0 : Int32) q9 (0 : Int32) zv1) rfl kl_X7_130 kn_X7_come ke_X7_come ki_X7 kc_X7_come kd_X7_come rfl (by decide) (by decide) (Nat.le_of_ble_eq_true rfl) (fun v hp2 hv _ _ => ?_) (fun E hp' zx _ _ => zx.elim)
      obtain ⟨rfl, hS2, fr2⟩ := hv
      show qq_Go _ hp2 (0) (0) 41 [(0, .ref 84), (1, .int cell), (2, .int q9)] [.int ((r_X7_come cell (0 : Int32) q9 (0 : Int32) ((r_X7_isRefused (f_X7_isNoCell cell) (0 : Int32) S).2)).1)] _ _
      have ze : r_X7_quarter cell q9 S = ((r_X7_come cell (0 : Int32) q9 (0 : Int32) ((r_X7_isRefused (f_X7_isNoCell cell) (0 : Int32) S).2)).1, (r_X7_come cell (0 : Int32) q9 (0 : Int32) ((r_X7_isRefused (f_X7_isNoCell cell) (0 : Int32) S).2)).2) := by
        rw [r_X7_quarter, if_neg zc1, if_pos zc2]
      exact qq_iret dX7_quarter_41 rfl rfl ⟨by rw [ze], by rw [ze]; first | exact ms_pr hS2 | exact hS2, (fr_t fr1 fr2)⟩
    · refine qq_iconst (v := 0) dX7_quarter_29 (by decide) ?_
      refine qq_goto (tgt := 41) dX7_quarter_30 (by decide) ?_
      have ze : r_X7_quarter cell q9 S = (0, (r_X7_isRefused (f_X7_isNoCell cell) (0 : Int32) S).2) := by
        rw [r_X7_quarter, if_neg zc1, if_neg zc2]
      exact qq_iret dX7_quarter_41 rfl rfl ⟨by rw [ze], by rw [ze]; first | exact ms_pr hS1 | exact hS1, fr1⟩
  · refine qq_iconst (v := 1) dX7_quarter_18 (by decide) ?_
    refine qq_goto (tgt := 23) dX7_quarter_19 (by decide) ?_
    refine qq_less (bc' := 0 + 0) (bs' := 0 + 0) (by omega) (by omega) ?_
    refine qq_callV (bc := 0) (bs := 0) (mc := 0) (ms := 0) (o := 84) (ci := 4) (N := 11) (T := TX7) (as := [.int (f_X7_isNoCell cell), .int 1]) (rest := []) dX7_quarter_23 hS.2.2.1 (by decide) rfl (mt_X7_isRefused hp A S hS (f_X7_isNoCell cell) (1 : Int32) ) rfl kl_X7_126 kn_X7_isRefused ke_X7_isRefused ki_X7 kc_X7_isRefused kd_X7_isRefused rfl (by decide) (by decide) (Nat.le_of_ble_eq_true rfl) (fun v hp3 hv _ _ => ?_) (fun E hp' zx _ _ => zx.elim)
    obtain ⟨rfl, hS3, fr3⟩ := hv
    show qq_Go _ hp3 (0) (0) 26 [(0, .ref 84), (1, .int cell), (2, .int q9)] [.int ((r_X7_isRefused (f_X7_isNoCell cell) (1 : Int32) S).1)] _ _
    refine qq_if_eq (tgt := 33) dX7_quarter_26 (by decide) (fun zc3 => ?_) (fun zc3 => ?_)
    · exact absurd zc3 qx_2
    · refine qq_iconst (v := 0) dX7_quarter_29 (by decide) ?_
      refine qq_goto (tgt := 41) dX7_quarter_30 (by decide) ?_
      have ze : r_X7_quarter cell q9 S = (0, (r_X7_isRefused (f_X7_isNoCell cell) (1 : Int32) S).2) := by
        rw [r_X7_quarter, if_pos zc1, if_neg zc3]
      exact qq_iret dX7_quarter_41 rfl rfl ⟨by rw [ze], by rw [ze]; first | exact ms_pr hS3 | exact hS3, fr3⟩
def r_X7_zero (cell : Int32) (u9 : Int32)  (S : sM) : Int32 × sM := if ((r_X7_isRefused (f_X7_isNoCell cell) (0 : Int32) S).1) = 0 then ((r_X7_come cell (0 : Int32) (0 : Int32) u9 ((r_X7_isRefused (f_X7_isNoCell cell) (0 : Int32) S).2)).1, (r_X7_come cell (0 : Int32) (0 : Int32) u9 ((r_X7_isRefused (f_X7_isNoCell cell) (0 : Int32) S).2)).2) else (0, (r_X7_isRefused (f_X7_isNoCell cell) (0 : Int32) S).2)
set_option maxRecDepth 4000 in
theorem mt_X7_zero (hp : qq_H) (A : qA) (S : sM) (hS : ms_M A S hp) (cell : Int32) (u9 : Int32)      : qq_Mt mX7_zero [.ref 84, .int cell, .int u9] hp 0 0 (fun v hp' => v = some (.int ((r_X7_zero cell u9 S).1)) ∧ ms_M A ((r_X7_zero cell u9 S).2) hp' ∧ fr A hp hp') (fun _ _ => False) := by
  refine qq_met pn_X7 (Nat.le_of_ble_eq_true rfl) (Nat.le_of_ble_eq_true rfl) kc_X7_zero ?_
  show qq_Go _ hp 0 0 0 [(0, .ref 84), (1, .int cell), (2, .int u9)] [] _ _
  refine qq_aload_n dX7_zero_0 rfl 0 rfl ?_
  refine qq_iload_n dX7_zero_1 rfl 1 rfl ?_
  refine qq_less (bc' := 0 + 0) (bs' := 0 + 0) (by omega) (by omega) ?_
  refine qq_callS (bc := 0) (bs := 0) (mc := 0) (ms := 0) (as := [.int cell]) (rest := [.ref 84]) dX7_zero_2 (mt_X7_isNoCell hp cell) rfl kl_X7_123 ks_X7_isNoCell ki_X7 kc_X7_isNoCell kd_X7_isNoCell rfl (by decide) (by decide) (Nat.le_of_ble_eq_true rfl) (fun v hp' hv _ _ => ?_) (fun E hp' zx _ _ => zx.elim)
  obtain ⟨rfl, rfl⟩ := hv
  show qq_Go _ hp (0) (0) 5 [(0, .ref 84), (1, .int cell), (2, .int u9)] [.int (f_X7_isNoCell cell), .ref 84] _ _
  refine qq_iconst (v := 0) dX7_zero_5 (by decide) ?_
  refine qq_less (bc' := 0 + 0) (bs' := 0 + 0) (by omega) (by omega) ?_
  refine qq_callV (bc := 0) (bs := 0) (mc := 0) (ms := 0) (o := 84) (ci := 4) (N := 11) (T := TX7) (as := [.int (f_X7_isNoCell cell), .int 0]) (rest := []) dX7_zero_6 hS.2.2.1 (by decide) rfl (mt_X7_isRefused hp A S hS (f_X7_isNoCell cell) (0 : Int32) ) rfl kl_X7_126 kn_X7_isRefused ke_X7_isRefused ki_X7 kc_X7_isRefused kd_X7_isRefused rfl (by decide) (by decide) (Nat.le_of_ble_eq_true rfl) (fun v hp1 hv _ _ => ?_) (fun E hp' zx _ _ => zx.elim)
  obtain ⟨rfl, hS1, fr1⟩ := hv
  show qq_Go _ hp1 (0) (0) 9 [(0, .ref 84), (1, .int cell), (2, .int u9)] [.int ((r_X7_isRefused (f_X7_isNoCell cell) (0 : Int32) S).1)] _ _
  refine qq_if_eq (tgt := 16) dX7_zero_9 (by decide) (fun zc1 => ?_) (fun zc1 => ?_)
  · have zv1 := qx_cell (qx_ref zc1)
    refine qq_aload_n dX7_zero_16 rfl 0 rfl ?_
    refine qq_iload_n dX7_zero_17 rfl 1 rfl ?_
    refine qq_iconst (v := 0) dX7_zero_18 (by decide) ?_
    refine qq_iconst (v := 0) dX7_zero_19 (by decide) ?_
    refine qq_iload_n dX7_zero_20 rfl 2 rfl ?_
    refine qq_less (bc' := 0 + 0) (bs' := 0 + 0) (by omega) (by omega) ?_
    refine qq_callV (bc := 0) (bs := 0) (mc := 0) (ms := 0) (o := 84) (ci := 4) (N := 11) (T := TX7) (as := [.int cell, .int 0, .int 0, .int u9]) (rest := []) dX7_zero_21 hS1.2.2.1 (by decide) rfl (mt_X7_come hp1 A ((r_X7_isRefused (f_X7_isNoCell cell) (0 : Int32) S).2) hS1 cell (0 : Int32) (0 : Int32) u9 zv1) rfl kl_X7_130 kn_X7_come ke_X7_come ki_X7 kc_X7_come kd_X7_come rfl (by decide) (by decide) (Nat.le_of_ble_eq_true rfl) (fun v hp2 hv _ _ => ?_) (fun E hp' zx _ _ => zx.elim)
    obtain ⟨rfl, hS2, fr2⟩ := hv
    show qq_Go _ hp2 (0) (0) 24 [(0, .ref 84), (1, .int cell), (2, .int u9)] [.int ((r_X7_come cell (0 : Int32) (0 : Int32) u9 ((r_X7_isRefused (f_X7_isNoCell cell) (0 : Int32) S).2)).1)] _ _
    have ze : r_X7_zero cell u9 S = ((r_X7_come cell (0 : Int32) (0 : Int32) u9 ((r_X7_isRefused (f_X7_isNoCell cell) (0 : Int32) S).2)).1, (r_X7_come cell (0 : Int32) (0 : Int32) u9 ((r_X7_isRefused (f_X7_isNoCell cell) (0 : Int32) S).2)).2) := by
      rw [r_X7_zero, if_pos zc1]
    exact qq_iret dX7_zero_24 rfl rfl ⟨by rw [ze], by rw [ze]; first | exact ms_pr hS2 | exact hS2, (fr_t fr1 fr2)⟩
  · refine qq_iconst (v := 0) dX7_zero_12 (by decide) ?_
    refine qq_goto (tgt := 24) dX7_zero_13 (by decide) ?_
    have ze : r_X7_zero cell u9 S = (0, (r_X7_isRefused (f_X7_isNoCell cell) (0 : Int32) S).2) := by
      rw [r_X7_zero, if_neg zc1]
    exact qq_iret dX7_zero_24 rfl rfl ⟨by rw [ze], by rw [ze]; first | exact ms_pr hS1 | exact hS1, fr1⟩
def r_X7_endless (cell : Int32) (u9 : Int32)  (S : sM) : Int32 × sM := if ((r_X7_isRefused (f_X7_isNoCell cell) (0 : Int32) S).1) = 0 then ((r_X7_come cell (1 : Int32) (0 : Int32) u9 ((r_X7_isRefused (f_X7_isNoCell cell) (0 : Int32) S).2)).1, (r_X7_come cell (1 : Int32) (0 : Int32) u9 ((r_X7_isRefused (f_X7_isNoCell cell) (0 : Int32) S).2)).2) else (0, (r_X7_isRefused (f_X7_isNoCell cell) (0 : Int32) S).2)
set_option maxRecDepth 4000 in
theorem mt_X7_endless (hp : qq_H) (A : qA) (S : sM) (hS : ms_M A S hp) (cell : Int32) (u9 : Int32)      : qq_Mt mX7_endless [.ref 84, .int cell, .int u9] hp 0 0 (fun v hp' => v = some (.int ((r_X7_endless cell u9 S).1)) ∧ ms_M A ((r_X7_endless cell u9 S).2) hp' ∧ fr A hp hp') (fun _ _ => False) := by
  refine qq_met pn_X7 (Nat.le_of_ble_eq_true rfl) (Nat.le_of_ble_eq_true rfl) kc_X7_endless ?_
  show qq_Go _ hp 0 0 0 [(0, .ref 84), (1, .int cell), (2, .int u9)] [] _ _
  refine qq_aload_n dX7_endless_0 rfl 0 rfl ?_
  refine qq_iload_n dX7_endless_1 rfl 1 rfl ?_
  refine qq_less (bc' := 0 + 0) (bs' := 0 + 0) (by omega) (by omega) ?_
  refine qq_callS (bc := 0) (bs := 0) (mc := 0) (ms := 0) (as := [.int cell]) (rest := [.ref 84]) dX7_endless_2 (mt_X7_isNoCell hp cell) rfl kl_X7_123 ks_X7_isNoCell ki_X7 kc_X7_isNoCell kd_X7_isNoCell rfl (by decide) (by decide) (Nat.le_of_ble_eq_true rfl) (fun v hp' hv _ _ => ?_) (fun E hp' zx _ _ => zx.elim)
  obtain ⟨rfl, rfl⟩ := hv
  show qq_Go _ hp (0) (0) 5 [(0, .ref 84), (1, .int cell), (2, .int u9)] [.int (f_X7_isNoCell cell), .ref 84] _ _
  refine qq_iconst (v := 0) dX7_endless_5 (by decide) ?_
  refine qq_less (bc' := 0 + 0) (bs' := 0 + 0) (by omega) (by omega) ?_
  refine qq_callV (bc := 0) (bs := 0) (mc := 0) (ms := 0) (o := 84) (ci := 4) (N := 11) (T := TX7) (as := [.int (f_X7_isNoCell cell), .int 0]) (rest := []) dX7_endless_6 hS.2.2.1 (by decide) rfl (mt_X7_isRefused hp A S hS (f_X7_isNoCell cell) (0 : Int32) ) rfl kl_X7_126 kn_X7_isRefused ke_X7_isRefused ki_X7 kc_X7_isRefused kd_X7_isRefused rfl (by decide) (by decide) (Nat.le_of_ble_eq_true rfl) (fun v hp1 hv _ _ => ?_) (fun E hp' zx _ _ => zx.elim)
  obtain ⟨rfl, hS1, fr1⟩ := hv
  show qq_Go _ hp1 (0) (0) 9 [(0, .ref 84), (1, .int cell), (2, .int u9)] [.int ((r_X7_isRefused (f_X7_isNoCell cell) (0 : Int32) S).1)] _ _
  refine qq_if_eq (tgt := 16) dX7_endless_9 (by decide) (fun zc1 => ?_) (fun zc1 => ?_)
  · have zv1 := qx_cell (qx_ref zc1)
    refine qq_aload_n dX7_endless_16 rfl 0 rfl ?_
    refine qq_iload_n dX7_endless_17 rfl 1 rfl ?_
    refine qq_iconst (v := 1) dX7_endless_18 (by decide) ?_
    refine qq_iconst (v := 0) dX7_endless_19 (by decide) ?_
    refine qq_iload_n dX7_endless_20 rfl 2 rfl ?_
    refine qq_less (bc' := 0 + 0) (bs' := 0 + 0) (by omega) (by omega) ?_
    refine qq_callV (bc := 0) (bs := 0) (mc := 0) (ms := 0) (o := 84) (ci := 4) (N := 11) (T := TX7) (as := [.int cell, .int 1, .int 0, .int u9]) (rest := []) dX7_endless_21 hS1.2.2.1 (by decide) rfl (mt_X7_come hp1 A ((r_X7_isRefused (f_X7_isNoCell cell) (0 : Int32) S).2) hS1 cell (1 : Int32) (0 : Int32) u9 zv1) rfl kl_X7_130 kn_X7_come ke_X7_come ki_X7 kc_X7_come kd_X7_come rfl (by decide) (by decide) (Nat.le_of_ble_eq_true rfl) (fun v hp2 hv _ _ => ?_) (fun E hp' zx _ _ => zx.elim)
    obtain ⟨rfl, hS2, fr2⟩ := hv
    show qq_Go _ hp2 (0) (0) 24 [(0, .ref 84), (1, .int cell), (2, .int u9)] [.int ((r_X7_come cell (1 : Int32) (0 : Int32) u9 ((r_X7_isRefused (f_X7_isNoCell cell) (0 : Int32) S).2)).1)] _ _
    have ze : r_X7_endless cell u9 S = ((r_X7_come cell (1 : Int32) (0 : Int32) u9 ((r_X7_isRefused (f_X7_isNoCell cell) (0 : Int32) S).2)).1, (r_X7_come cell (1 : Int32) (0 : Int32) u9 ((r_X7_isRefused (f_X7_isNoCell cell) (0 : Int32) S).2)).2) := by
      rw [r_X7_endless, if_pos zc1]
    exact qq_iret dX7_endless_24 rfl rfl ⟨by rw [ze], by rw [ze]; first | exact ms_pr hS2 | exact hS2, (fr_t fr1 fr2)⟩
  · refine qq_iconst (v := 0) dX7_endless_12 (by decide) ?_
    refine qq_goto (tgt := 24) dX7_endless_13 (by decide) ?_
    have ze : r_X7_endless cell u9 S = (0, (r_X7_isRefused (f_X7_isNoCell cell) (0 : Int32) S).2) := by
      rw [r_X7_endless, if_neg zc1]
    exact qq_iret dX7_endless_24 rfl rfl ⟨by rw [ze], by rw [ze]; first | exact ms_pr hS1 | exact hS1, fr1⟩
def lf_X7_others_6  (g19 : (Nat → Int32)) (g29 : (Nat → Int32)) (g39 : (Nat → Int32)) : Nat → Int32 → Int32 → sM → Int32 × Int32
  | 0, mn9, k9, S => (mn9, k9)
  | fu + 1, mn9, k9, S => if 8 ≤ k9 then (mn9, k9) else if (S.1 k9.toNatClampNeg) = (g19 k9.toNatClampNeg) then if (S.2.1 k9.toNatClampNeg) = (g29 k9.toNatClampNeg) then if (S.2.2.1 k9.toNatClampNeg) = (g39 k9.toNatClampNeg) then lf_X7_others_6 g19 g29 g39 fu (mn9 + 0) (k9 + 1) S else lf_X7_others_6 g19 g29 g39 fu (mn9 + 1) (k9 + 1) S else lf_X7_others_6 g19 g29 g39 fu (mn9 + 1) (k9 + 1) S else lf_X7_others_6 g19 g29 g39 fu (mn9 + 1) (k9 + 1) S
set_option maxRecDepth 4000 in
theorem lq_X7_others_6  (A : qA) (S : sM) (r19 : Nat) (g19 : (Nat → Int32)) (r29 : Nat) (g29 : (Nat → Int32)) (r39 : Nat) (g39 : (Nat → Int32))  {P : Option Value → qq_H → Prop} {PX : String → qq_H → Prop} : ∀ (fu : Nat) (mn9 : Int32) (k9 : Int32) (hp : qq_H) , ms_M A S hp → hp.2 r19 = .inl (0, 8, .inl g19) → r19 < hp.1 → hp.2 r29 = .inl (0, 8, .inl g29) → r29 < hp.1 → hp.2 r39 = .inl (2, 8, .inl g39) → r39 < hp.1 → ¬ k9 < 0 → ((8 : Int32).toInt - k9.toInt).toNat < fu → ∀ (bc bs : Nat), qq_Go mX7_others hp bc bs 71 [(0, .ref 84), (1, .ref r19), (2, .ref r29), (3, .ref r39), (4, .int ((lf_X7_others_6 g19 g29 g39 fu mn9 k9 S).1))] [] P PX → qq_Go mX7_others hp (0 * fu + bc) (0 * fu + bs) 6 [(0, .ref 84), (1, .ref r19), (2, .ref r29), (3, .ref r39), (4, .int mn9), (5, .int k9)] [] P PX := by
  intro fu
  induction fu with
  | zero => intro mn9 k9 hp hS hr1 hl1 hr2 hl2 hr3 hl3 zp zz; exact absurd zz (Nat.not_lt_zero _)
  | succ fu lqih =>
    intro mn9 k9 hp hS hr1 hl1 hr2 hl2 hr3 hl3 zp zh bc bs hk
    refine qq_iload dX7_others_6 5 rfl ?_
    refine qq_bipush (v := 8) dX7_others_8 (by decide) ?_
    refine qq_icmp_ge (tgt := 71) dX7_others_10 (by decide) (fun zc1 => ?_) (fun zc1 => ?_)
    · have ze : lf_X7_others_6 g19 g29 g39 (fu + 1) mn9 k9 S = (mn9, k9) := by
        rw [lf_X7_others_6, if_pos zc1]
      rw [ze] at hk
      refine qq_loc [0, 1, 2, 3, 4] rfl ?_
      refine qq_less (bc' := bc) (bs' := bs) (by omega) (by omega) ?_
      exact hk
    · refine qq_iload dX7_others_13 4 rfl ?_
      refine qq_aload_n dX7_others_15 rfl 0 rfl ?_
      refine mx_get hS dX7_others_16 4 (by decide) rfl kl_X7_28 ?_
      refine qq_iload dX7_others_19 5 rfl ?_
      refine qq_iald dX7_others_21 hS.2.2.2.1 (qm_in8 zp zc1) ?_
      refine qq_aload_n dX7_others_22 rfl 1 rfl ?_
      refine qq_iload dX7_others_23 5 rfl ?_
      refine qq_iald dX7_others_25 hr1 (qm_in8 zp zc1) ?_
      refine qq_icmp_ne (tgt := 61) dX7_others_26 (by decide) (fun zc2 => ?_) (fun zc2 => ?_)
      · refine qq_iconst (v := 1) dX7_others_61 (by decide) ?_
        refine qq_iadd dX7_others_62 ?_
        refine qq_istore (loc' := [(0, .ref 84), (1, .ref r19), (2, .ref r29), (3, .ref r39), (4, .int (mn9 + 1)), (5, .int k9)]) dX7_others_63 [1, 2, 3, 4, 0, 5] (Nat.le_of_ble_eq_true rfl) rfl ?_
        refine qq_iinc (v := k9 + 1) (loc' := [(0, .ref 84), (1, .ref r19), (2, .ref r29), (3, .ref r39), (4, .int (mn9 + 1)), (5, .int (k9 + 1))]) dX7_others_65 5 rfl rfl [1, 2, 3, 4, 5, 0] (Nat.le_of_ble_eq_true rfl) rfl ?_
        refine qq_goto (tgt := 6) dX7_others_68 (by decide) ?_
        have ze : lf_X7_others_6 g19 g29 g39 (fu + 1) mn9 k9 S = lf_X7_others_6 g19 g29 g39 fu (mn9 + 1) (k9 + 1) S := by
          rw [lf_X7_others_6, if_neg zc1, if_neg zc2]
        rw [ze] at hk
        refine qq_less (bc' := 0 * fu + bc) (bs' := 0 * fu + bs) (by omega) (by omega) ?_
        exact lqih (mn9 + 1) (k9 + 1) hp hS hr1 hl1 hr2 hl2 hr3 hl3 (qm_pos zp (by assumption)) (qm_up (by assumption) zh) bc bs hk
      · refine qq_aload_n dX7_others_29 rfl 0 rfl ?_
        refine mx_get hS dX7_others_30 5 (by decide) rfl kl_X7_31 ?_
        refine qq_iload dX7_others_33 5 rfl ?_
        refine qq_iald dX7_others_35 hS.2.2.2.2.1 (qm_in8 zp zc1) ?_
        refine qq_aload_n dX7_others_36 rfl 2 rfl ?_
        refine qq_iload dX7_others_37 5 rfl ?_
        refine qq_iald dX7_others_39 hr2 (qm_in8 zp zc1) ?_
        refine qq_icmp_ne (tgt := 61) dX7_others_40 (by decide) (fun zc3 => ?_) (fun zc3 => ?_)
        · refine qq_iconst (v := 1) dX7_others_61 (by decide) ?_
          refine qq_iadd dX7_others_62 ?_
          refine qq_istore (loc' := [(0, .ref 84), (1, .ref r19), (2, .ref r29), (3, .ref r39), (4, .int (mn9 + 1)), (5, .int k9)]) dX7_others_63 [1, 2, 3, 4, 0, 5] (Nat.le_of_ble_eq_true rfl) rfl ?_
          refine qq_iinc (v := k9 + 1) (loc' := [(0, .ref 84), (1, .ref r19), (2, .ref r29), (3, .ref r39), (4, .int (mn9 + 1)), (5, .int (k9 + 1))]) dX7_others_65 5 rfl rfl [1, 2, 3, 4, 5, 0] (Nat.le_of_ble_eq_true rfl) rfl ?_
          refine qq_goto (tgt := 6) dX7_others_68 (by decide) ?_
          have ze : lf_X7_others_6 g19 g29 g39 (fu + 1) mn9 k9 S = lf_X7_others_6 g19 g29 g39 fu (mn9 + 1) (k9 + 1) S := by
            rw [lf_X7_others_6, if_neg zc1, if_pos zc2, if_neg zc3]
          rw [ze] at hk
          refine qq_less (bc' := 0 * fu + bc) (bs' := 0 * fu + bs) (by omega) (by omega) ?_
          exact lqih (mn9 + 1) (k9 + 1) hp hS hr1 hl1 hr2 hl2 hr3 hl3 (qm_pos zp (by assumption)) (qm_up (by assumption) zh) bc bs hk
        · refine qq_aload_n dX7_others_43 rfl 0 rfl ?_
          refine mx_get hS dX7_others_44 6 (by decide) rfl kl_X7_34 ?_
          refine qq_iload dX7_others_47 5 rfl ?_
          refine qq_zald dX7_others_49 hS.2.2.2.2.2.1 (qm_in8 zp zc1) ?_
          refine qq_aload_n dX7_others_50 rfl 3 rfl ?_
          refine qq_iload dX7_others_51 5 rfl ?_
          refine qq_zald dX7_others_53 hr3 (qm_in8 zp zc1) ?_
          refine qq_icmp_ne (tgt := 61) dX7_others_54 (by decide) (fun zc4 => ?_) (fun zc4 => ?_)
          · refine qq_iconst (v := 1) dX7_others_61 (by decide) ?_
            refine qq_iadd dX7_others_62 ?_
            refine qq_istore (loc' := [(0, .ref 84), (1, .ref r19), (2, .ref r29), (3, .ref r39), (4, .int (mn9 + 1)), (5, .int k9)]) dX7_others_63 [1, 2, 3, 4, 0, 5] (Nat.le_of_ble_eq_true rfl) rfl ?_
            refine qq_iinc (v := k9 + 1) (loc' := [(0, .ref 84), (1, .ref r19), (2, .ref r29), (3, .ref r39), (4, .int (mn9 + 1)), (5, .int (k9 + 1))]) dX7_others_65 5 rfl rfl [1, 2, 3, 4, 5, 0] (Nat.le_of_ble_eq_true rfl) rfl ?_
            refine qq_goto (tgt := 6) dX7_others_68 (by decide) ?_
            have ze : lf_X7_others_6 g19 g29 g39 (fu + 1) mn9 k9 S = lf_X7_others_6 g19 g29 g39 fu (mn9 + 1) (k9 + 1) S := by
              rw [lf_X7_others_6, if_neg zc1, if_pos zc2, if_pos zc3, if_neg zc4]
            rw [ze] at hk
            refine qq_less (bc' := 0 * fu + bc) (bs' := 0 * fu + bs) (by omega) (by omega) ?_
            exact lqih (mn9 + 1) (k9 + 1) hp hS hr1 hl1 hr2 hl2 hr3 hl3 (qm_pos zp (by assumption)) (qm_up (by assumption) zh) bc bs hk
          · refine qq_iconst (v := 0) dX7_others_57 (by decide) ?_
            refine qq_goto (tgt := 62) dX7_others_58 (by decide) ?_
            refine qq_iadd dX7_others_62 ?_
            refine qq_istore (loc' := [(0, .ref 84), (1, .ref r19), (2, .ref r29), (3, .ref r39), (4, .int (mn9 + 0)), (5, .int k9)]) dX7_others_63 [1, 2, 3, 4, 0, 5] (Nat.le_of_ble_eq_true rfl) rfl ?_
            refine qq_iinc (v := k9 + 1) (loc' := [(0, .ref 84), (1, .ref r19), (2, .ref r29), (3, .ref r39), (4, .int (mn9 + 0)), (5, .int (k9 + 1))]) dX7_others_65 5 rfl rfl [1, 2, 3, 4, 5, 0] (Nat.le_of_ble_eq_true rfl) rfl ?_
            refine qq_goto (tgt := 6) dX7_others_68 (by decide) ?_
            have ze : lf_X7_others_6 g19 g29 g39 (fu + 1) mn9 k9 S = lf_X7_others_6 g19 g29 g39 fu (mn9 + 0) (k9 + 1) S := by
              rw [lf_X7_others_6, if_neg zc1, if_pos zc2, if_pos zc3, if_pos zc4]
            rw [ze] at hk
            refine qq_less (bc' := 0 * fu + bc) (bs' := 0 * fu + bs) (by omega) (by omega) ?_
            exact lqih (mn9 + 0) (k9 + 1) hp hS hr1 hl1 hr2 hl2 hr3 hl3 (qm_pos zp (by assumption)) (qm_up (by assumption) zh) bc bs hk
def r_X7_others  (h1 : (Nat → Int32)) (h2 : (Nat → Int32)) (h3 : (Nat → Int32)) (S : sM) : Int32 := (lf_X7_others_6 h1 h2 h3 9 (0 : Int32) (0 : Int32) S).1
set_option maxRecDepth 4000 in
theorem mt_X7_others (hp : qq_H) (A : qA) (S : sM) (hS : ms_M A S hp)  (r1 : Nat) (r2 : Nat) (r3 : Nat) (h1 : (Nat → Int32)) (h2 : (Nat → Int32)) (h3 : (Nat → Int32)) (hr_r1 : hp.2 r1 = .inl (0, 8, .inl h1)) (hr_r2 : hp.2 r2 = .inl (0, 8, .inl h2)) (hr_r3 : hp.2 r3 = .inl (2, 8, .inl h3)) (hl_r1 : r1 < hp.1) (hl_r2 : r2 < hp.1) (hl_r3 : r3 < hp.1)  : qq_Mt mX7_others [.ref 84, .ref r1, .ref r2, .ref r3] hp 0 0 (fun v hp' => v = some (.int (r_X7_others h1 h2 h3 S)) ∧ hp = hp') (fun _ _ => False) := by
  refine qq_met pn_X7 (Nat.le_of_ble_eq_true rfl) (Nat.le_of_ble_eq_true rfl) kc_X7_others ?_
  show qq_Go _ hp 0 0 0 [(0, .ref 84), (1, .ref r1), (2, .ref r2), (3, .ref r3)] [] _ _
  refine qq_iconst (v := 0) dX7_others_0 (by decide) ?_
  refine qq_istore (loc' := [(0, .ref 84), (1, .ref r1), (2, .ref r2), (3, .ref r3), (4, .int 0)]) dX7_others_1 [1, 2, 3, 4, 0] (Nat.le_of_ble_eq_true rfl) rfl ?_
  refine qq_iconst (v := 0) dX7_others_3 (by decide) ?_
  refine qq_istore (loc' := [(0, .ref 84), (1, .ref r1), (2, .ref r2), (3, .ref r3), (4, .int 0), (5, .int 0)]) dX7_others_4 [1, 2, 3, 4, 5, 0] (Nat.le_of_ble_eq_true rfl) rfl ?_
  refine qq_less (bc' := 0 + 0) (bs' := 0 + 0) (by omega) (by omega) ?_
  refine qq_less (bc' := 0 * 9 + (0)) (bs' := 0 * 9 + (0)) (by omega) (by omega) ?_
  refine lq_X7_others_6 A S r1 h1 r2 h2 r3 h3 9 (0 : Int32) (0 : Int32) hp hS hr_r1 hl_r1 hr_r2 hl_r2 hr_r3 hl_r3 (by decide) (by decide) (0) (0) ?_
  show qq_Go _ hp (0) (0) 71 [(0, .ref 84), (1, .ref r1), (2, .ref r2), (3, .ref r3), (4, .int ((lf_X7_others_6 h1 h2 h3 9 (0 : Int32) (0 : Int32) S).1))] [] _ _
  refine qq_iload dX7_others_71 4 rfl ?_
  have ze : r_X7_others h1 h2 h3 S = (lf_X7_others_6 h1 h2 h3 9 (0 : Int32) (0 : Int32) S).1 := by
    rw [r_X7_others]
  exact qq_iret dX7_others_73 rfl rfl ⟨by rw [ze], rfl⟩
def r_X7_copy (cell : Int32) (into : Int32)  (S : sM) : Int32 × sM := if (f_X7_isNoCell cell) = 0 then if (f_X7_isNoCell into) = 0 then if ((r_X7_isRefused (0 : Int32) (0 : Int32) S).1) = 0 then ((r_X7_come into ((((r_X7_isRefused (0 : Int32) (0 : Int32) S).2).1) cell.toNatClampNeg) ((((r_X7_isRefused (0 : Int32) (0 : Int32) S).2).2.1) cell.toNatClampNeg) ((((r_X7_isRefused (0 : Int32) (0 : Int32) S).2).2.2.1) cell.toNatClampNeg) ((r_X7_isRefused (0 : Int32) (0 : Int32) S).2)).1, (r_X7_come into ((((r_X7_isRefused (0 : Int32) (0 : Int32) S).2).1) cell.toNatClampNeg) ((((r_X7_isRefused (0 : Int32) (0 : Int32) S).2).2.1) cell.toNatClampNeg) ((((r_X7_isRefused (0 : Int32) (0 : Int32) S).2).2.2.1) cell.toNatClampNeg) ((r_X7_isRefused (0 : Int32) (0 : Int32) S).2)).2) else (0, (r_X7_isRefused (0 : Int32) (0 : Int32) S).2) else if ((r_X7_isRefused (1 : Int32) (0 : Int32) S).1) = 0 then (0, (r_X7_isRefused (1 : Int32) (0 : Int32) S).2) else (0, (r_X7_isRefused (1 : Int32) (0 : Int32) S).2) else if ((r_X7_isRefused (1 : Int32) (0 : Int32) S).1) = 0 then (0, (r_X7_isRefused (1 : Int32) (0 : Int32) S).2) else (0, (r_X7_isRefused (1 : Int32) (0 : Int32) S).2)
set_option maxRecDepth 4000 in
theorem mt_X7_copy (hp : qq_H) (A : qA) (S : sM) (hS : ms_M A S hp) (cell : Int32) (into : Int32)      : qq_Mt mX7_copy [.ref 84, .int cell, .int into] hp 0 0 (fun v hp' => v = some (.int ((r_X7_copy cell into S).1)) ∧ ms_M A ((r_X7_copy cell into S).2) hp' ∧ fr A hp hp') (fun _ _ => False) := by
  refine qq_met pn_X7 (Nat.le_of_ble_eq_true rfl) (Nat.le_of_ble_eq_true rfl) kc_X7_copy ?_
  show qq_Go _ hp 0 0 0 [(0, .ref 84), (1, .int cell), (2, .int into)] [] _ _
  refine qq_aload_n dX7_copy_0 rfl 0 rfl ?_
  refine qq_iload_n dX7_copy_1 rfl 1 rfl ?_
  refine qq_less (bc' := 0 + 0) (bs' := 0 + 0) (by omega) (by omega) ?_
  refine qq_callS (bc := 0) (bs := 0) (mc := 0) (ms := 0) (as := [.int cell]) (rest := [.ref 84]) dX7_copy_2 (mt_X7_isNoCell hp cell) rfl kl_X7_123 ks_X7_isNoCell ki_X7 kc_X7_isNoCell kd_X7_isNoCell rfl (by decide) (by decide) (Nat.le_of_ble_eq_true rfl) (fun v hp' hv _ _ => ?_) (fun E hp' zx _ _ => zx.elim)
  obtain ⟨rfl, rfl⟩ := hv
  show qq_Go _ hp (0) (0) 5 [(0, .ref 84), (1, .int cell), (2, .int into)] [.int (f_X7_isNoCell cell), .ref 84] _ _
  refine qq_if_ne (tgt := 15) dX7_copy_5 (by decide) (fun zc1 => ?_) (fun zc1 => ?_)
  · refine qq_iconst (v := 1) dX7_copy_15 (by decide) ?_
    refine qq_goto (tgt := 20) dX7_copy_16 (by decide) ?_
    refine qq_iconst (v := 0) dX7_copy_20 (by decide) ?_
    refine qq_less (bc' := 0 + 0) (bs' := 0 + 0) (by omega) (by omega) ?_
    refine qq_callV (bc := 0) (bs := 0) (mc := 0) (ms := 0) (o := 84) (ci := 4) (N := 11) (T := TX7) (as := [.int 1, .int 0]) (rest := []) dX7_copy_21 hS.2.2.1 (by decide) rfl (mt_X7_isRefused hp A S hS (1 : Int32) (0 : Int32) ) rfl kl_X7_126 kn_X7_isRefused ke_X7_isRefused ki_X7 kc_X7_isRefused kd_X7_isRefused rfl (by decide) (by decide) (Nat.le_of_ble_eq_true rfl) (fun v hp1 hv _ _ => ?_) (fun E hp' zx _ _ => zx.elim)
    obtain ⟨rfl, hS1, fr1⟩ := hv
    show qq_Go _ hp1 (0) (0) 24 [(0, .ref 84), (1, .int cell), (2, .int into)] [.int ((r_X7_isRefused (1 : Int32) (0 : Int32) S).1)] _ _
    refine qq_if_eq (tgt := 31) dX7_copy_24 (by decide) (fun zc2 => ?_) (fun zc2 => ?_)
    · exact absurd zc2 qx_1
    · refine qq_iconst (v := 0) dX7_copy_27 (by decide) ?_
      refine qq_goto (tgt := 54) dX7_copy_28 (by decide) ?_
      have ze : r_X7_copy cell into S = (0, (r_X7_isRefused (1 : Int32) (0 : Int32) S).2) := by
        rw [r_X7_copy, if_neg zc1, if_neg zc2]
      exact qq_iret dX7_copy_54 rfl rfl ⟨by rw [ze], by rw [ze]; first | exact ms_pr hS1 | exact hS1, fr1⟩
  · have zv1 := qx_cell zc1
    refine qq_iload_n dX7_copy_8 rfl 2 rfl ?_
    refine qq_less (bc' := 0 + 0) (bs' := 0 + 0) (by omega) (by omega) ?_
    refine qq_callS (bc := 0) (bs := 0) (mc := 0) (ms := 0) (as := [.int into]) (rest := [.ref 84]) dX7_copy_9 (mt_X7_isNoCell hp into) rfl kl_X7_123 ks_X7_isNoCell ki_X7 kc_X7_isNoCell kd_X7_isNoCell rfl (by decide) (by decide) (Nat.le_of_ble_eq_true rfl) (fun v hp' hv _ _ => ?_) (fun E hp' zx _ _ => zx.elim)
    obtain ⟨rfl, rfl⟩ := hv
    show qq_Go _ hp (0) (0) 12 [(0, .ref 84), (1, .int cell), (2, .int into)] [.int (f_X7_isNoCell into), .ref 84] _ _
    refine qq_if_eq (tgt := 19) dX7_copy_12 (by decide) (fun zc3 => ?_) (fun zc3 => ?_)
    · have zv2 := qx_cell zc3
      refine qq_iconst (v := 0) dX7_copy_19 (by decide) ?_
      refine qq_iconst (v := 0) dX7_copy_20 (by decide) ?_
      refine qq_less (bc' := 0 + 0) (bs' := 0 + 0) (by omega) (by omega) ?_
      refine qq_callV (bc := 0) (bs := 0) (mc := 0) (ms := 0) (o := 84) (ci := 4) (N := 11) (T := TX7) (as := [.int 0, .int 0]) (rest := []) dX7_copy_21 hS.2.2.1 (by decide) rfl (mt_X7_isRefused hp A S hS (0 : Int32) (0 : Int32) ) rfl kl_X7_126 kn_X7_isRefused ke_X7_isRefused ki_X7 kc_X7_isRefused kd_X7_isRefused rfl (by decide) (by decide) (Nat.le_of_ble_eq_true rfl) (fun v hp2 hv _ _ => ?_) (fun E hp' zx _ _ => zx.elim)
      obtain ⟨rfl, hS2, fr2⟩ := hv
      show qq_Go _ hp2 (0) (0) 24 [(0, .ref 84), (1, .int cell), (2, .int into)] [.int ((r_X7_isRefused (0 : Int32) (0 : Int32) S).1)] _ _
      refine qq_if_eq (tgt := 31) dX7_copy_24 (by decide) (fun zc4 => ?_) (fun zc4 => ?_)
      · refine qq_aload_n dX7_copy_31 rfl 0 rfl ?_
        refine qq_iload_n dX7_copy_32 rfl 2 rfl ?_
        refine qq_aload_n dX7_copy_33 rfl 0 rfl ?_
        refine mx_get hS2 dX7_copy_34 4 (by decide) rfl kl_X7_28 ?_
        refine qq_iload_n dX7_copy_37 rfl 1 rfl ?_
        refine qq_iald dX7_copy_38 hS2.2.2.2.1 zv1 ?_
        refine qq_aload_n dX7_copy_39 rfl 0 rfl ?_
        refine mx_get hS2 dX7_copy_40 5 (by decide) rfl kl_X7_31 ?_
        refine qq_iload_n dX7_copy_43 rfl 1 rfl ?_
        refine qq_iald dX7_copy_44 hS2.2.2.2.2.1 zv1 ?_
        refine qq_aload_n dX7_copy_45 rfl 0 rfl ?_
        refine mx_get hS2 dX7_copy_46 6 (by decide) rfl kl_X7_34 ?_
        refine qq_iload_n dX7_copy_49 rfl 1 rfl ?_
        refine qq_zald dX7_copy_50 hS2.2.2.2.2.2.1 zv1 ?_
        refine qq_less (bc' := 0 + 0) (bs' := 0 + 0) (by omega) (by omega) ?_
        refine qq_callV (bc := 0) (bs := 0) (mc := 0) (ms := 0) (o := 84) (ci := 4) (N := 11) (T := TX7) (as := [.int into, .int ((((r_X7_isRefused (0 : Int32) (0 : Int32) S).2).1) cell.toNatClampNeg), .int ((((r_X7_isRefused (0 : Int32) (0 : Int32) S).2).2.1) cell.toNatClampNeg), .int ((((r_X7_isRefused (0 : Int32) (0 : Int32) S).2).2.2.1) cell.toNatClampNeg)]) (rest := []) dX7_copy_51 hS2.2.2.1 (by decide) rfl (mt_X7_come hp2 A ((r_X7_isRefused (0 : Int32) (0 : Int32) S).2) hS2 into ((((r_X7_isRefused (0 : Int32) (0 : Int32) S).2).1) cell.toNatClampNeg) ((((r_X7_isRefused (0 : Int32) (0 : Int32) S).2).2.1) cell.toNatClampNeg) ((((r_X7_isRefused (0 : Int32) (0 : Int32) S).2).2.2.1) cell.toNatClampNeg) zv2) rfl kl_X7_130 kn_X7_come ke_X7_come ki_X7 kc_X7_come kd_X7_come rfl (by decide) (by decide) (Nat.le_of_ble_eq_true rfl) (fun v hp3 hv _ _ => ?_) (fun E hp' zx _ _ => zx.elim)
        obtain ⟨rfl, hS3, fr3⟩ := hv
        show qq_Go _ hp3 (0) (0) 54 [(0, .ref 84), (1, .int cell), (2, .int into)] [.int ((r_X7_come into ((((r_X7_isRefused (0 : Int32) (0 : Int32) S).2).1) cell.toNatClampNeg) ((((r_X7_isRefused (0 : Int32) (0 : Int32) S).2).2.1) cell.toNatClampNeg) ((((r_X7_isRefused (0 : Int32) (0 : Int32) S).2).2.2.1) cell.toNatClampNeg) ((r_X7_isRefused (0 : Int32) (0 : Int32) S).2)).1)] _ _
        have ze : r_X7_copy cell into S = ((r_X7_come into ((((r_X7_isRefused (0 : Int32) (0 : Int32) S).2).1) cell.toNatClampNeg) ((((r_X7_isRefused (0 : Int32) (0 : Int32) S).2).2.1) cell.toNatClampNeg) ((((r_X7_isRefused (0 : Int32) (0 : Int32) S).2).2.2.1) cell.toNatClampNeg) ((r_X7_isRefused (0 : Int32) (0 : Int32) S).2)).1, (r_X7_come into ((((r_X7_isRefused (0 : Int32) (0 : Int32) S).2).1) cell.toNatClampNeg) ((((r_X7_isRefused (0 : Int32) (0 : Int32) S).2).2.1) cell.toNatClampNeg) ((((r_X7_isRefused (0 : Int32) (0 : Int32) S).2).2.2.1) cell.toNatClampNeg) ((r_X7_isRefused (0 : Int32) (0 : Int32) S).2)).2) := by
          rw [r_X7_copy, if_pos zc1, if_pos zc3, if_pos zc4]
        exact qq_iret dX7_copy_54 rfl rfl ⟨by rw [ze], by rw [ze]; first | exact ms_pr hS3 | exact hS3, (fr_t fr2 fr3)⟩
      · exact absurd qx_0 zc4
    · refine qq_iconst (v := 1) dX7_copy_15 (by decide) ?_
      refine qq_goto (tgt := 20) dX7_copy_16 (by decide) ?_
      refine qq_iconst (v := 0) dX7_copy_20 (by decide) ?_
      refine qq_less (bc' := 0 + 0) (bs' := 0 + 0) (by omega) (by omega) ?_
      refine qq_callV (bc := 0) (bs := 0) (mc := 0) (ms := 0) (o := 84) (ci := 4) (N := 11) (T := TX7) (as := [.int 1, .int 0]) (rest := []) dX7_copy_21 hS.2.2.1 (by decide) rfl (mt_X7_isRefused hp A S hS (1 : Int32) (0 : Int32) ) rfl kl_X7_126 kn_X7_isRefused ke_X7_isRefused ki_X7 kc_X7_isRefused kd_X7_isRefused rfl (by decide) (by decide) (Nat.le_of_ble_eq_true rfl) (fun v hp4 hv _ _ => ?_) (fun E hp' zx _ _ => zx.elim)
      obtain ⟨rfl, hS4, fr4⟩ := hv
      show qq_Go _ hp4 (0) (0) 24 [(0, .ref 84), (1, .int cell), (2, .int into)] [.int ((r_X7_isRefused (1 : Int32) (0 : Int32) S).1)] _ _
      refine qq_if_eq (tgt := 31) dX7_copy_24 (by decide) (fun zc5 => ?_) (fun zc5 => ?_)
      · exact absurd zc5 qx_1
      · refine qq_iconst (v := 0) dX7_copy_27 (by decide) ?_
        refine qq_goto (tgt := 54) dX7_copy_28 (by decide) ?_
        have ze : r_X7_copy cell into S = (0, (r_X7_isRefused (1 : Int32) (0 : Int32) S).2) := by
          rw [r_X7_copy, if_pos zc1, if_neg zc3, if_neg zc5]
        exact qq_iret dX7_copy_54 rfl rfl ⟨by rw [ze], by rw [ze]; first | exact ms_pr hS4 | exact hS4, fr4⟩
def r_X7_swap (cell : Int32) (other : Int32)  (S : sM) : Int32 × sM := if (f_X7_isNoCell cell) = 0 then if (f_X7_isNoCell other) = 0 then if ((r_X7_isRefused (0 : Int32) (0 : Int32) S).1) = 0 then ((r_X7_come cell ((((r_X7_isRefused (0 : Int32) (0 : Int32) S).2).1) other.toNatClampNeg) ((((r_X7_isRefused (0 : Int32) (0 : Int32) S).2).2.1) other.toNatClampNeg) ((((r_X7_isRefused (0 : Int32) (0 : Int32) S).2).2.2.1) other.toNatClampNeg) ((r_X7_isRefused (0 : Int32) (0 : Int32) S).2)).1, (((r_X7_come other ((((r_X7_isRefused (0 : Int32) (0 : Int32) S).2).1) cell.toNatClampNeg) ((((r_X7_isRefused (0 : Int32) (0 : Int32) S).2).2.1) cell.toNatClampNeg) ((((r_X7_isRefused (0 : Int32) (0 : Int32) S).2).2.2.1) cell.toNatClampNeg) ((r_X7_come cell ((((r_X7_isRefused (0 : Int32) (0 : Int32) S).2).1) other.toNatClampNeg) ((((r_X7_isRefused (0 : Int32) (0 : Int32) S).2).2.1) other.toNatClampNeg) ((((r_X7_isRefused (0 : Int32) (0 : Int32) S).2).2.2.1) other.toNatClampNeg) ((r_X7_isRefused (0 : Int32) (0 : Int32) S).2)).2)).2).1, ((r_X7_come other ((((r_X7_isRefused (0 : Int32) (0 : Int32) S).2).1) cell.toNatClampNeg) ((((r_X7_isRefused (0 : Int32) (0 : Int32) S).2).2.1) cell.toNatClampNeg) ((((r_X7_isRefused (0 : Int32) (0 : Int32) S).2).2.2.1) cell.toNatClampNeg) ((r_X7_come cell ((((r_X7_isRefused (0 : Int32) (0 : Int32) S).2).1) other.toNatClampNeg) ((((r_X7_isRefused (0 : Int32) (0 : Int32) S).2).2.1) other.toNatClampNeg) ((((r_X7_isRefused (0 : Int32) (0 : Int32) S).2).2.2.1) other.toNatClampNeg) ((r_X7_isRefused (0 : Int32) (0 : Int32) S).2)).2)).2).2.1, ((r_X7_come other ((((r_X7_isRefused (0 : Int32) (0 : Int32) S).2).1) cell.toNatClampNeg) ((((r_X7_isRefused (0 : Int32) (0 : Int32) S).2).2.1) cell.toNatClampNeg) ((((r_X7_isRefused (0 : Int32) (0 : Int32) S).2).2.2.1) cell.toNatClampNeg) ((r_X7_come cell ((((r_X7_isRefused (0 : Int32) (0 : Int32) S).2).1) other.toNatClampNeg) ((((r_X7_isRefused (0 : Int32) (0 : Int32) S).2).2.1) other.toNatClampNeg) ((((r_X7_isRefused (0 : Int32) (0 : Int32) S).2).2.2.1) other.toNatClampNeg) ((r_X7_isRefused (0 : Int32) (0 : Int32) S).2)).2)).2).2.2.1, (((r_X7_come other ((((r_X7_isRefused (0 : Int32) (0 : Int32) S).2).1) cell.toNatClampNeg) ((((r_X7_isRefused (0 : Int32) (0 : Int32) S).2).2.1) cell.toNatClampNeg) ((((r_X7_isRefused (0 : Int32) (0 : Int32) S).2).2.2.1) cell.toNatClampNeg) ((r_X7_come cell ((((r_X7_isRefused (0 : Int32) (0 : Int32) S).2).1) other.toNatClampNeg) ((((r_X7_isRefused (0 : Int32) (0 : Int32) S).2).2.1) other.toNatClampNeg) ((((r_X7_isRefused (0 : Int32) (0 : Int32) S).2).2.2.1) other.toNatClampNeg) ((r_X7_isRefused (0 : Int32) (0 : Int32) S).2)).2)).2).2.2.2.1) - 1, ((r_X7_come other ((((r_X7_isRefused (0 : Int32) (0 : Int32) S).2).1) cell.toNatClampNeg) ((((r_X7_isRefused (0 : Int32) (0 : Int32) S).2).2.1) cell.toNatClampNeg) ((((r_X7_isRefused (0 : Int32) (0 : Int32) S).2).2.2.1) cell.toNatClampNeg) ((r_X7_come cell ((((r_X7_isRefused (0 : Int32) (0 : Int32) S).2).1) other.toNatClampNeg) ((((r_X7_isRefused (0 : Int32) (0 : Int32) S).2).2.1) other.toNatClampNeg) ((((r_X7_isRefused (0 : Int32) (0 : Int32) S).2).2.2.1) other.toNatClampNeg) ((r_X7_isRefused (0 : Int32) (0 : Int32) S).2)).2)).2).2.2.2.2.1, ((r_X7_come other ((((r_X7_isRefused (0 : Int32) (0 : Int32) S).2).1) cell.toNatClampNeg) ((((r_X7_isRefused (0 : Int32) (0 : Int32) S).2).2.1) cell.toNatClampNeg) ((((r_X7_isRefused (0 : Int32) (0 : Int32) S).2).2.2.1) cell.toNatClampNeg) ((r_X7_come cell ((((r_X7_isRefused (0 : Int32) (0 : Int32) S).2).1) other.toNatClampNeg) ((((r_X7_isRefused (0 : Int32) (0 : Int32) S).2).2.1) other.toNatClampNeg) ((((r_X7_isRefused (0 : Int32) (0 : Int32) S).2).2.2.1) other.toNatClampNeg) ((r_X7_isRefused (0 : Int32) (0 : Int32) S).2)).2)).2).2.2.2.2.2.1, ((r_X7_come other ((((r_X7_isRefused (0 : Int32) (0 : Int32) S).2).1) cell.toNatClampNeg) ((((r_X7_isRefused (0 : Int32) (0 : Int32) S).2).2.1) cell.toNatClampNeg) ((((r_X7_isRefused (0 : Int32) (0 : Int32) S).2).2.2.1) cell.toNatClampNeg) ((r_X7_come cell ((((r_X7_isRefused (0 : Int32) (0 : Int32) S).2).1) other.toNatClampNeg) ((((r_X7_isRefused (0 : Int32) (0 : Int32) S).2).2.1) other.toNatClampNeg) ((((r_X7_isRefused (0 : Int32) (0 : Int32) S).2).2.2.1) other.toNatClampNeg) ((r_X7_isRefused (0 : Int32) (0 : Int32) S).2)).2)).2).2.2.2.2.2.2)) else (0, (r_X7_isRefused (0 : Int32) (0 : Int32) S).2) else if ((r_X7_isRefused (1 : Int32) (0 : Int32) S).1) = 0 then (0, (r_X7_isRefused (1 : Int32) (0 : Int32) S).2) else (0, (r_X7_isRefused (1 : Int32) (0 : Int32) S).2) else if ((r_X7_isRefused (1 : Int32) (0 : Int32) S).1) = 0 then (0, (r_X7_isRefused (1 : Int32) (0 : Int32) S).2) else (0, (r_X7_isRefused (1 : Int32) (0 : Int32) S).2)
set_option maxRecDepth 4000 in
theorem mt_X7_swap (hp : qq_H) (A : qA) (S : sM) (hS : ms_M A S hp) (cell : Int32) (other : Int32)      : qq_Mt mX7_swap [.ref 84, .int cell, .int other] hp 0 0 (fun v hp' => v = some (.int ((r_X7_swap cell other S).1)) ∧ ms_M A ((r_X7_swap cell other S).2) hp' ∧ fr A hp hp') (fun _ _ => False) := by
  refine qq_met pn_X7 (Nat.le_of_ble_eq_true rfl) (Nat.le_of_ble_eq_true rfl) kc_X7_swap ?_
  show qq_Go _ hp 0 0 0 [(0, .ref 84), (1, .int cell), (2, .int other)] [] _ _
  refine qq_aload_n dX7_swap_0 rfl 0 rfl ?_
  refine qq_iload_n dX7_swap_1 rfl 1 rfl ?_
  refine qq_less (bc' := 0 + 0) (bs' := 0 + 0) (by omega) (by omega) ?_
  refine qq_callS (bc := 0) (bs := 0) (mc := 0) (ms := 0) (as := [.int cell]) (rest := [.ref 84]) dX7_swap_2 (mt_X7_isNoCell hp cell) rfl kl_X7_123 ks_X7_isNoCell ki_X7 kc_X7_isNoCell kd_X7_isNoCell rfl (by decide) (by decide) (Nat.le_of_ble_eq_true rfl) (fun v hp' hv _ _ => ?_) (fun E hp' zx _ _ => zx.elim)
  obtain ⟨rfl, rfl⟩ := hv
  show qq_Go _ hp (0) (0) 5 [(0, .ref 84), (1, .int cell), (2, .int other)] [.int (f_X7_isNoCell cell), .ref 84] _ _
  refine qq_if_ne (tgt := 15) dX7_swap_5 (by decide) (fun zc1 => ?_) (fun zc1 => ?_)
  · refine qq_iconst (v := 1) dX7_swap_15 (by decide) ?_
    refine qq_goto (tgt := 20) dX7_swap_16 (by decide) ?_
    refine qq_iconst (v := 0) dX7_swap_20 (by decide) ?_
    refine qq_less (bc' := 0 + 0) (bs' := 0 + 0) (by omega) (by omega) ?_
    refine qq_callV (bc := 0) (bs := 0) (mc := 0) (ms := 0) (o := 84) (ci := 4) (N := 11) (T := TX7) (as := [.int 1, .int 0]) (rest := []) dX7_swap_21 hS.2.2.1 (by decide) rfl (mt_X7_isRefused hp A S hS (1 : Int32) (0 : Int32) ) rfl kl_X7_126 kn_X7_isRefused ke_X7_isRefused ki_X7 kc_X7_isRefused kd_X7_isRefused rfl (by decide) (by decide) (Nat.le_of_ble_eq_true rfl) (fun v hp1 hv _ _ => ?_) (fun E hp' zx _ _ => zx.elim)
    obtain ⟨rfl, hS1, fr1⟩ := hv
    show qq_Go _ hp1 (0) (0) 24 [(0, .ref 84), (1, .int cell), (2, .int other)] [.int ((r_X7_isRefused (1 : Int32) (0 : Int32) S).1)] _ _
    refine qq_if_eq (tgt := 29) dX7_swap_24 (by decide) (fun zc2 => ?_) (fun zc2 => ?_)
    · exact absurd zc2 qx_1
    · refine qq_iconst (v := 0) dX7_swap_27 (by decide) ?_
      have ze : r_X7_swap cell other S = (0, (r_X7_isRefused (1 : Int32) (0 : Int32) S).2) := by
        rw [r_X7_swap, if_neg zc1, if_neg zc2]
      exact qq_iret dX7_swap_28 rfl rfl ⟨by rw [ze], by rw [ze]; first | exact ms_pr hS1 | exact hS1, fr1⟩
  · have zv1 := qx_cell zc1
    refine qq_iload_n dX7_swap_8 rfl 2 rfl ?_
    refine qq_less (bc' := 0 + 0) (bs' := 0 + 0) (by omega) (by omega) ?_
    refine qq_callS (bc := 0) (bs := 0) (mc := 0) (ms := 0) (as := [.int other]) (rest := [.ref 84]) dX7_swap_9 (mt_X7_isNoCell hp other) rfl kl_X7_123 ks_X7_isNoCell ki_X7 kc_X7_isNoCell kd_X7_isNoCell rfl (by decide) (by decide) (Nat.le_of_ble_eq_true rfl) (fun v hp' hv _ _ => ?_) (fun E hp' zx _ _ => zx.elim)
    obtain ⟨rfl, rfl⟩ := hv
    show qq_Go _ hp (0) (0) 12 [(0, .ref 84), (1, .int cell), (2, .int other)] [.int (f_X7_isNoCell other), .ref 84] _ _
    refine qq_if_eq (tgt := 19) dX7_swap_12 (by decide) (fun zc3 => ?_) (fun zc3 => ?_)
    · have zv2 := qx_cell zc3
      refine qq_iconst (v := 0) dX7_swap_19 (by decide) ?_
      refine qq_iconst (v := 0) dX7_swap_20 (by decide) ?_
      refine qq_less (bc' := 0 + 0) (bs' := 0 + 0) (by omega) (by omega) ?_
      refine qq_callV (bc := 0) (bs := 0) (mc := 0) (ms := 0) (o := 84) (ci := 4) (N := 11) (T := TX7) (as := [.int 0, .int 0]) (rest := []) dX7_swap_21 hS.2.2.1 (by decide) rfl (mt_X7_isRefused hp A S hS (0 : Int32) (0 : Int32) ) rfl kl_X7_126 kn_X7_isRefused ke_X7_isRefused ki_X7 kc_X7_isRefused kd_X7_isRefused rfl (by decide) (by decide) (Nat.le_of_ble_eq_true rfl) (fun v hp2 hv _ _ => ?_) (fun E hp' zx _ _ => zx.elim)
      obtain ⟨rfl, hS2, fr2⟩ := hv
      show qq_Go _ hp2 (0) (0) 24 [(0, .ref 84), (1, .int cell), (2, .int other)] [.int ((r_X7_isRefused (0 : Int32) (0 : Int32) S).1)] _ _
      refine qq_if_eq (tgt := 29) dX7_swap_24 (by decide) (fun zc4 => ?_) (fun zc4 => ?_)
      · refine qq_aload_n dX7_swap_29 rfl 0 rfl ?_
        refine mx_get hS2 dX7_swap_30 4 (by decide) rfl kl_X7_28 ?_
        refine qq_iload_n dX7_swap_33 rfl 1 rfl ?_
        refine qq_iald dX7_swap_34 hS2.2.2.2.1 zv1 ?_
        refine qq_istore_n (loc' := [(0, .ref 84), (1, .int cell), (2, .int other), (3, .int ((((r_X7_isRefused (0 : Int32) (0 : Int32) S).2).1) cell.toNatClampNeg))]) dX7_swap_35 rfl [1, 2, 3, 0] (Nat.le_of_ble_eq_true rfl) rfl ?_
        refine qq_aload_n dX7_swap_36 rfl 0 rfl ?_
        refine mx_get hS2 dX7_swap_37 5 (by decide) rfl kl_X7_31 ?_
        refine qq_iload_n dX7_swap_40 rfl 1 rfl ?_
        refine qq_iald dX7_swap_41 hS2.2.2.2.2.1 zv1 ?_
        refine qq_istore (loc' := [(0, .ref 84), (1, .int cell), (2, .int other), (3, .int ((((r_X7_isRefused (0 : Int32) (0 : Int32) S).2).1) cell.toNatClampNeg)), (4, .int ((((r_X7_isRefused (0 : Int32) (0 : Int32) S).2).2.1) cell.toNatClampNeg))]) dX7_swap_42 [1, 2, 3, 4, 0] (Nat.le_of_ble_eq_true rfl) rfl ?_
        refine qq_aload_n dX7_swap_44 rfl 0 rfl ?_
        refine mx_get hS2 dX7_swap_45 6 (by decide) rfl kl_X7_34 ?_
        refine qq_iload_n dX7_swap_48 rfl 1 rfl ?_
        refine qq_zald dX7_swap_49 hS2.2.2.2.2.2.1 zv1 ?_
        refine qq_istore (loc' := [(0, .ref 84), (1, .int cell), (2, .int other), (3, .int ((((r_X7_isRefused (0 : Int32) (0 : Int32) S).2).1) cell.toNatClampNeg)), (4, .int ((((r_X7_isRefused (0 : Int32) (0 : Int32) S).2).2.1) cell.toNatClampNeg)), (5, .int ((((r_X7_isRefused (0 : Int32) (0 : Int32) S).2).2.2.1) cell.toNatClampNeg))]) dX7_swap_50 [1, 2, 3, 4, 5, 0] (Nat.le_of_ble_eq_true rfl) rfl ?_
        refine qq_aload_n dX7_swap_52 rfl 0 rfl ?_
        refine qq_iload_n dX7_swap_53 rfl 1 rfl ?_
        refine qq_aload_n dX7_swap_54 rfl 0 rfl ?_
        refine mx_get hS2 dX7_swap_55 4 (by decide) rfl kl_X7_28 ?_
        refine qq_iload_n dX7_swap_58 rfl 2 rfl ?_
        refine qq_iald dX7_swap_59 hS2.2.2.2.1 zv2 ?_
        refine qq_aload_n dX7_swap_60 rfl 0 rfl ?_
        refine mx_get hS2 dX7_swap_61 5 (by decide) rfl kl_X7_31 ?_
        refine qq_iload_n dX7_swap_64 rfl 2 rfl ?_
        refine qq_iald dX7_swap_65 hS2.2.2.2.2.1 zv2 ?_
        refine qq_aload_n dX7_swap_66 rfl 0 rfl ?_
        refine mx_get hS2 dX7_swap_67 6 (by decide) rfl kl_X7_34 ?_
        refine qq_iload_n dX7_swap_70 rfl 2 rfl ?_
        refine qq_zald dX7_swap_71 hS2.2.2.2.2.2.1 zv2 ?_
        refine qq_less (bc' := 0 + 0) (bs' := 0 + 0) (by omega) (by omega) ?_
        refine qq_callV (bc := 0) (bs := 0) (mc := 0) (ms := 0) (o := 84) (ci := 4) (N := 11) (T := TX7) (as := [.int cell, .int ((((r_X7_isRefused (0 : Int32) (0 : Int32) S).2).1) other.toNatClampNeg), .int ((((r_X7_isRefused (0 : Int32) (0 : Int32) S).2).2.1) other.toNatClampNeg), .int ((((r_X7_isRefused (0 : Int32) (0 : Int32) S).2).2.2.1) other.toNatClampNeg)]) (rest := []) dX7_swap_72 hS2.2.2.1 (by decide) rfl (mt_X7_come hp2 A ((r_X7_isRefused (0 : Int32) (0 : Int32) S).2) hS2 cell ((((r_X7_isRefused (0 : Int32) (0 : Int32) S).2).1) other.toNatClampNeg) ((((r_X7_isRefused (0 : Int32) (0 : Int32) S).2).2.1) other.toNatClampNeg) ((((r_X7_isRefused (0 : Int32) (0 : Int32) S).2).2.2.1) other.toNatClampNeg) zv1) rfl kl_X7_130 kn_X7_come ke_X7_come ki_X7 kc_X7_come kd_X7_come rfl (by decide) (by decide) (Nat.le_of_ble_eq_true rfl) (fun v hp3 hv _ _ => ?_) (fun E hp' zx _ _ => zx.elim)
        obtain ⟨rfl, hS3, fr3⟩ := hv
        show qq_Go _ hp3 (0) (0) 75 [(0, .ref 84), (1, .int cell), (2, .int other), (3, .int ((((r_X7_isRefused (0 : Int32) (0 : Int32) S).2).1) cell.toNatClampNeg)), (4, .int ((((r_X7_isRefused (0 : Int32) (0 : Int32) S).2).2.1) cell.toNatClampNeg)), (5, .int ((((r_X7_isRefused (0 : Int32) (0 : Int32) S).2).2.2.1) cell.toNatClampNeg))] [.int ((r_X7_come cell ((((r_X7_isRefused (0 : Int32) (0 : Int32) S).2).1) other.toNatClampNeg) ((((r_X7_isRefused (0 : Int32) (0 : Int32) S).2).2.1) other.toNatClampNeg) ((((r_X7_isRefused (0 : Int32) (0 : Int32) S).2).2.2.1) other.toNatClampNeg) ((r_X7_isRefused (0 : Int32) (0 : Int32) S).2)).1)] _ _
        refine qq_istore (loc' := [(0, .ref 84), (1, .int cell), (2, .int other), (3, .int ((((r_X7_isRefused (0 : Int32) (0 : Int32) S).2).1) cell.toNatClampNeg)), (4, .int ((((r_X7_isRefused (0 : Int32) (0 : Int32) S).2).2.1) cell.toNatClampNeg)), (5, .int ((((r_X7_isRefused (0 : Int32) (0 : Int32) S).2).2.2.1) cell.toNatClampNeg)), (6, .int ((r_X7_come cell ((((r_X7_isRefused (0 : Int32) (0 : Int32) S).2).1) other.toNatClampNeg) ((((r_X7_isRefused (0 : Int32) (0 : Int32) S).2).2.1) other.toNatClampNeg) ((((r_X7_isRefused (0 : Int32) (0 : Int32) S).2).2.2.1) other.toNatClampNeg) ((r_X7_isRefused (0 : Int32) (0 : Int32) S).2)).1))]) dX7_swap_75 [1, 2, 3, 4, 5, 6, 0] (Nat.le_of_ble_eq_true rfl) rfl ?_
        refine qq_aload_n dX7_swap_77 rfl 0 rfl ?_
        refine qq_iload_n dX7_swap_78 rfl 2 rfl ?_
        refine qq_iload_n dX7_swap_79 rfl 3 rfl ?_
        refine qq_iload dX7_swap_80 4 rfl ?_
        refine qq_iload dX7_swap_82 5 rfl ?_
        refine qq_less (bc' := 0 + 0) (bs' := 0 + 0) (by omega) (by omega) ?_
        refine qq_callV (bc := 0) (bs := 0) (mc := 0) (ms := 0) (o := 84) (ci := 4) (N := 11) (T := TX7) (as := [.int other, .int ((((r_X7_isRefused (0 : Int32) (0 : Int32) S).2).1) cell.toNatClampNeg), .int ((((r_X7_isRefused (0 : Int32) (0 : Int32) S).2).2.1) cell.toNatClampNeg), .int ((((r_X7_isRefused (0 : Int32) (0 : Int32) S).2).2.2.1) cell.toNatClampNeg)]) (rest := []) dX7_swap_84 hS3.2.2.1 (by decide) rfl (mt_X7_come hp3 A ((r_X7_come cell ((((r_X7_isRefused (0 : Int32) (0 : Int32) S).2).1) other.toNatClampNeg) ((((r_X7_isRefused (0 : Int32) (0 : Int32) S).2).2.1) other.toNatClampNeg) ((((r_X7_isRefused (0 : Int32) (0 : Int32) S).2).2.2.1) other.toNatClampNeg) ((r_X7_isRefused (0 : Int32) (0 : Int32) S).2)).2) hS3 other ((((r_X7_isRefused (0 : Int32) (0 : Int32) S).2).1) cell.toNatClampNeg) ((((r_X7_isRefused (0 : Int32) (0 : Int32) S).2).2.1) cell.toNatClampNeg) ((((r_X7_isRefused (0 : Int32) (0 : Int32) S).2).2.2.1) cell.toNatClampNeg) zv2) rfl kl_X7_130 kn_X7_come ke_X7_come ki_X7 kc_X7_come kd_X7_come rfl (by decide) (by decide) (Nat.le_of_ble_eq_true rfl) (fun v hp4 hv _ _ => ?_) (fun E hp' zx _ _ => zx.elim)
        obtain ⟨rfl, hS4, fr4⟩ := hv
        show qq_Go _ hp4 (0) (0) 87 [(0, .ref 84), (1, .int cell), (2, .int other), (3, .int ((((r_X7_isRefused (0 : Int32) (0 : Int32) S).2).1) cell.toNatClampNeg)), (4, .int ((((r_X7_isRefused (0 : Int32) (0 : Int32) S).2).2.1) cell.toNatClampNeg)), (5, .int ((((r_X7_isRefused (0 : Int32) (0 : Int32) S).2).2.2.1) cell.toNatClampNeg)), (6, .int ((r_X7_come cell ((((r_X7_isRefused (0 : Int32) (0 : Int32) S).2).1) other.toNatClampNeg) ((((r_X7_isRefused (0 : Int32) (0 : Int32) S).2).2.1) other.toNatClampNeg) ((((r_X7_isRefused (0 : Int32) (0 : Int32) S).2).2.2.1) other.toNatClampNeg) ((r_X7_isRefused (0 : Int32) (0 : Int32) S).2)).1))] [.int ((r_X7_come other ((((r_X7_isRefused (0 : Int32) (0 : Int32) S).2).1) cell.toNatClampNeg) ((((r_X7_isRefused (0 : Int32) (0 : Int32) S).2).2.1) cell.toNatClampNeg) ((((r_X7_isRefused (0 : Int32) (0 : Int32) S).2).2.2.1) cell.toNatClampNeg) ((r_X7_come cell ((((r_X7_isRefused (0 : Int32) (0 : Int32) S).2).1) other.toNatClampNeg) ((((r_X7_isRefused (0 : Int32) (0 : Int32) S).2).2.1) other.toNatClampNeg) ((((r_X7_isRefused (0 : Int32) (0 : Int32) S).2).2.2.1) other.toNatClampNeg) ((r_X7_isRefused (0 : Int32) (0 : Int32) S).2)).2)).1)] _ _
        refine qq_pop dX7_swap_87 rfl ?_
        refine qq_aload_n dX7_swap_88 rfl 0 rfl ?_
        refine qq_dup dX7_swap_89 rfl ?_
        refine mx_get hS4 dX7_swap_90 7 (by decide) rfl kl_X7_117 ?_
        refine qq_iconst (v := 1) dX7_swap_93 (by decide) ?_
        refine qq_isub dX7_swap_94 ?_
        refine mx_put7 hS4 dX7_swap_95 kl_X7_117 (fun hp5 hS5 fq5 => ?_)
        have fr5 := fq5 A
        replace hS5 : ms_M A (((r_X7_come other ((((r_X7_isRefused (0 : Int32) (0 : Int32) S).2).1) cell.toNatClampNeg) ((((r_X7_isRefused (0 : Int32) (0 : Int32) S).2).2.1) cell.toNatClampNeg) ((((r_X7_isRefused (0 : Int32) (0 : Int32) S).2).2.2.1) cell.toNatClampNeg) ((r_X7_come cell ((((r_X7_isRefused (0 : Int32) (0 : Int32) S).2).1) other.toNatClampNeg) ((((r_X7_isRefused (0 : Int32) (0 : Int32) S).2).2.1) other.toNatClampNeg) ((((r_X7_isRefused (0 : Int32) (0 : Int32) S).2).2.2.1) other.toNatClampNeg) ((r_X7_isRefused (0 : Int32) (0 : Int32) S).2)).2)).2).1, ((r_X7_come other ((((r_X7_isRefused (0 : Int32) (0 : Int32) S).2).1) cell.toNatClampNeg) ((((r_X7_isRefused (0 : Int32) (0 : Int32) S).2).2.1) cell.toNatClampNeg) ((((r_X7_isRefused (0 : Int32) (0 : Int32) S).2).2.2.1) cell.toNatClampNeg) ((r_X7_come cell ((((r_X7_isRefused (0 : Int32) (0 : Int32) S).2).1) other.toNatClampNeg) ((((r_X7_isRefused (0 : Int32) (0 : Int32) S).2).2.1) other.toNatClampNeg) ((((r_X7_isRefused (0 : Int32) (0 : Int32) S).2).2.2.1) other.toNatClampNeg) ((r_X7_isRefused (0 : Int32) (0 : Int32) S).2)).2)).2).2.1, ((r_X7_come other ((((r_X7_isRefused (0 : Int32) (0 : Int32) S).2).1) cell.toNatClampNeg) ((((r_X7_isRefused (0 : Int32) (0 : Int32) S).2).2.1) cell.toNatClampNeg) ((((r_X7_isRefused (0 : Int32) (0 : Int32) S).2).2.2.1) cell.toNatClampNeg) ((r_X7_come cell ((((r_X7_isRefused (0 : Int32) (0 : Int32) S).2).1) other.toNatClampNeg) ((((r_X7_isRefused (0 : Int32) (0 : Int32) S).2).2.1) other.toNatClampNeg) ((((r_X7_isRefused (0 : Int32) (0 : Int32) S).2).2.2.1) other.toNatClampNeg) ((r_X7_isRefused (0 : Int32) (0 : Int32) S).2)).2)).2).2.2.1, (((r_X7_come other ((((r_X7_isRefused (0 : Int32) (0 : Int32) S).2).1) cell.toNatClampNeg) ((((r_X7_isRefused (0 : Int32) (0 : Int32) S).2).2.1) cell.toNatClampNeg) ((((r_X7_isRefused (0 : Int32) (0 : Int32) S).2).2.2.1) cell.toNatClampNeg) ((r_X7_come cell ((((r_X7_isRefused (0 : Int32) (0 : Int32) S).2).1) other.toNatClampNeg) ((((r_X7_isRefused (0 : Int32) (0 : Int32) S).2).2.1) other.toNatClampNeg) ((((r_X7_isRefused (0 : Int32) (0 : Int32) S).2).2.2.1) other.toNatClampNeg) ((r_X7_isRefused (0 : Int32) (0 : Int32) S).2)).2)).2).2.2.2.1) - 1, ((r_X7_come other ((((r_X7_isRefused (0 : Int32) (0 : Int32) S).2).1) cell.toNatClampNeg) ((((r_X7_isRefused (0 : Int32) (0 : Int32) S).2).2.1) cell.toNatClampNeg) ((((r_X7_isRefused (0 : Int32) (0 : Int32) S).2).2.2.1) cell.toNatClampNeg) ((r_X7_come cell ((((r_X7_isRefused (0 : Int32) (0 : Int32) S).2).1) other.toNatClampNeg) ((((r_X7_isRefused (0 : Int32) (0 : Int32) S).2).2.1) other.toNatClampNeg) ((((r_X7_isRefused (0 : Int32) (0 : Int32) S).2).2.2.1) other.toNatClampNeg) ((r_X7_isRefused (0 : Int32) (0 : Int32) S).2)).2)).2).2.2.2.2.1, ((r_X7_come other ((((r_X7_isRefused (0 : Int32) (0 : Int32) S).2).1) cell.toNatClampNeg) ((((r_X7_isRefused (0 : Int32) (0 : Int32) S).2).2.1) cell.toNatClampNeg) ((((r_X7_isRefused (0 : Int32) (0 : Int32) S).2).2.2.1) cell.toNatClampNeg) ((r_X7_come cell ((((r_X7_isRefused (0 : Int32) (0 : Int32) S).2).1) other.toNatClampNeg) ((((r_X7_isRefused (0 : Int32) (0 : Int32) S).2).2.1) other.toNatClampNeg) ((((r_X7_isRefused (0 : Int32) (0 : Int32) S).2).2.2.1) other.toNatClampNeg) ((r_X7_isRefused (0 : Int32) (0 : Int32) S).2)).2)).2).2.2.2.2.2.1, ((r_X7_come other ((((r_X7_isRefused (0 : Int32) (0 : Int32) S).2).1) cell.toNatClampNeg) ((((r_X7_isRefused (0 : Int32) (0 : Int32) S).2).2.1) cell.toNatClampNeg) ((((r_X7_isRefused (0 : Int32) (0 : Int32) S).2).2.2.1) cell.toNatClampNeg) ((r_X7_come cell ((((r_X7_isRefused (0 : Int32) (0 : Int32) S).2).1) other.toNatClampNeg) ((((r_X7_isRefused (0 : Int32) (0 : Int32) S).2).2.1) other.toNatClampNeg) ((((r_X7_isRefused (0 : Int32) (0 : Int32) S).2).2.2.1) other.toNatClampNeg) ((r_X7_isRefused (0 : Int32) (0 : Int32) S).2)).2)).2).2.2.2.2.2.2) hp5 := hS5
        refine qq_iload dX7_swap_98 6 rfl ?_
        have ze : r_X7_swap cell other S = ((r_X7_come cell ((((r_X7_isRefused (0 : Int32) (0 : Int32) S).2).1) other.toNatClampNeg) ((((r_X7_isRefused (0 : Int32) (0 : Int32) S).2).2.1) other.toNatClampNeg) ((((r_X7_isRefused (0 : Int32) (0 : Int32) S).2).2.2.1) other.toNatClampNeg) ((r_X7_isRefused (0 : Int32) (0 : Int32) S).2)).1, (((r_X7_come other ((((r_X7_isRefused (0 : Int32) (0 : Int32) S).2).1) cell.toNatClampNeg) ((((r_X7_isRefused (0 : Int32) (0 : Int32) S).2).2.1) cell.toNatClampNeg) ((((r_X7_isRefused (0 : Int32) (0 : Int32) S).2).2.2.1) cell.toNatClampNeg) ((r_X7_come cell ((((r_X7_isRefused (0 : Int32) (0 : Int32) S).2).1) other.toNatClampNeg) ((((r_X7_isRefused (0 : Int32) (0 : Int32) S).2).2.1) other.toNatClampNeg) ((((r_X7_isRefused (0 : Int32) (0 : Int32) S).2).2.2.1) other.toNatClampNeg) ((r_X7_isRefused (0 : Int32) (0 : Int32) S).2)).2)).2).1, ((r_X7_come other ((((r_X7_isRefused (0 : Int32) (0 : Int32) S).2).1) cell.toNatClampNeg) ((((r_X7_isRefused (0 : Int32) (0 : Int32) S).2).2.1) cell.toNatClampNeg) ((((r_X7_isRefused (0 : Int32) (0 : Int32) S).2).2.2.1) cell.toNatClampNeg) ((r_X7_come cell ((((r_X7_isRefused (0 : Int32) (0 : Int32) S).2).1) other.toNatClampNeg) ((((r_X7_isRefused (0 : Int32) (0 : Int32) S).2).2.1) other.toNatClampNeg) ((((r_X7_isRefused (0 : Int32) (0 : Int32) S).2).2.2.1) other.toNatClampNeg) ((r_X7_isRefused (0 : Int32) (0 : Int32) S).2)).2)).2).2.1, ((r_X7_come other ((((r_X7_isRefused (0 : Int32) (0 : Int32) S).2).1) cell.toNatClampNeg) ((((r_X7_isRefused (0 : Int32) (0 : Int32) S).2).2.1) cell.toNatClampNeg) ((((r_X7_isRefused (0 : Int32) (0 : Int32) S).2).2.2.1) cell.toNatClampNeg) ((r_X7_come cell ((((r_X7_isRefused (0 : Int32) (0 : Int32) S).2).1) other.toNatClampNeg) ((((r_X7_isRefused (0 : Int32) (0 : Int32) S).2).2.1) other.toNatClampNeg) ((((r_X7_isRefused (0 : Int32) (0 : Int32) S).2).2.2.1) other.toNatClampNeg) ((r_X7_isRefused (0 : Int32) (0 : Int32) S).2)).2)).2).2.2.1, (((r_X7_come other ((((r_X7_isRefused (0 : Int32) (0 : Int32) S).2).1) cell.toNatClampNeg) ((((r_X7_isRefused (0 : Int32) (0 : Int32) S).2).2.1) cell.toNatClampNeg) ((((r_X7_isRefused (0 : Int32) (0 : Int32) S).2).2.2.1) cell.toNatClampNeg) ((r_X7_come cell ((((r_X7_isRefused (0 : Int32) (0 : Int32) S).2).1) other.toNatClampNeg) ((((r_X7_isRefused (0 : Int32) (0 : Int32) S).2).2.1) other.toNatClampNeg) ((((r_X7_isRefused (0 : Int32) (0 : Int32) S).2).2.2.1) other.toNatClampNeg) ((r_X7_isRefused (0 : Int32) (0 : Int32) S).2)).2)).2).2.2.2.1) - 1, ((r_X7_come other ((((r_X7_isRefused (0 : Int32) (0 : Int32) S).2).1) cell.toNatClampNeg) ((((r_X7_isRefused (0 : Int32) (0 : Int32) S).2).2.1) cell.toNatClampNeg) ((((r_X7_isRefused (0 : Int32) (0 : Int32) S).2).2.2.1) cell.toNatClampNeg) ((r_X7_come cell ((((r_X7_isRefused (0 : Int32) (0 : Int32) S).2).1) other.toNatClampNeg) ((((r_X7_isRefused (0 : Int32) (0 : Int32) S).2).2.1) other.toNatClampNeg) ((((r_X7_isRefused (0 : Int32) (0 : Int32) S).2).2.2.1) other.toNatClampNeg) ((r_X7_isRefused (0 : Int32) (0 : Int32) S).2)).2)).2).2.2.2.2.1, ((r_X7_come other ((((r_X7_isRefused (0 : Int32) (0 : Int32) S).2).1) cell.toNatClampNeg) ((((r_X7_isRefused (0 : Int32) (0 : Int32) S).2).2.1) cell.toNatClampNeg) ((((r_X7_isRefused (0 : Int32) (0 : Int32) S).2).2.2.1) cell.toNatClampNeg) ((r_X7_come cell ((((r_X7_isRefused (0 : Int32) (0 : Int32) S).2).1) other.toNatClampNeg) ((((r_X7_isRefused (0 : Int32) (0 : Int32) S).2).2.1) other.toNatClampNeg) ((((r_X7_isRefused (0 : Int32) (0 : Int32) S).2).2.2.1) other.toNatClampNeg) ((r_X7_isRefused (0 : Int32) (0 : Int32) S).2)).2)).2).2.2.2.2.2.1, ((r_X7_come other ((((r_X7_isRefused (0 : Int32) (0 : Int32) S).2).1) cell.toNatClampNeg) ((((r_X7_isRefused (0 : Int32) (0 : Int32) S).2).2.1) cell.toNatClampNeg) ((((r_X7_isRefused (0 : Int32) (0 : Int32) S).2).2.2.1) cell.toNatClampNeg) ((r_X7_come cell ((((r_X7_isRefused (0 : Int32) (0 : Int32) S).2).1) other.toNatClampNeg) ((((r_X7_isRefused (0 : Int32) (0 : Int32) S).2).2.1) other.toNatClampNeg) ((((r_X7_isRefused (0 : Int32) (0 : Int32) S).2).2.2.1) other.toNatClampNeg) ((r_X7_isRefused (0 : Int32) (0 : Int32) S).2)).2)).2).2.2.2.2.2.2)) := by
          rw [r_X7_swap, if_pos zc1, if_pos zc3, if_pos zc4]
        exact qq_iret dX7_swap_100 rfl rfl ⟨by rw [ze], by rw [ze]; first | exact ms_pr hS5 | exact hS5, (fr_t (fr_t (fr_t fr2 fr3) fr4) fr5)⟩
      · exact absurd qx_0 zc4
    · refine qq_iconst (v := 1) dX7_swap_15 (by decide) ?_
      refine qq_goto (tgt := 20) dX7_swap_16 (by decide) ?_
      refine qq_iconst (v := 0) dX7_swap_20 (by decide) ?_
      refine qq_less (bc' := 0 + 0) (bs' := 0 + 0) (by omega) (by omega) ?_
      refine qq_callV (bc := 0) (bs := 0) (mc := 0) (ms := 0) (o := 84) (ci := 4) (N := 11) (T := TX7) (as := [.int 1, .int 0]) (rest := []) dX7_swap_21 hS.2.2.1 (by decide) rfl (mt_X7_isRefused hp A S hS (1 : Int32) (0 : Int32) ) rfl kl_X7_126 kn_X7_isRefused ke_X7_isRefused ki_X7 kc_X7_isRefused kd_X7_isRefused rfl (by decide) (by decide) (Nat.le_of_ble_eq_true rfl) (fun v hp6 hv _ _ => ?_) (fun E hp' zx _ _ => zx.elim)
      obtain ⟨rfl, hS6, fr6⟩ := hv
      show qq_Go _ hp6 (0) (0) 24 [(0, .ref 84), (1, .int cell), (2, .int other)] [.int ((r_X7_isRefused (1 : Int32) (0 : Int32) S).1)] _ _
      refine qq_if_eq (tgt := 29) dX7_swap_24 (by decide) (fun zc5 => ?_) (fun zc5 => ?_)
      · exact absurd zc5 qx_1
      · refine qq_iconst (v := 0) dX7_swap_27 (by decide) ?_
        have ze : r_X7_swap cell other S = (0, (r_X7_isRefused (1 : Int32) (0 : Int32) S).2) := by
          rw [r_X7_swap, if_pos zc1, if_neg zc3, if_neg zc5]
        exact qq_iret dX7_swap_28 rfl rfl ⟨by rw [ze], by rw [ze]; first | exact ms_pr hS6 | exact hS6, fr6⟩
def r_X7_step (cell : Int32) (by9 : Int32)  (S : sM) : Int32 × sM := if (f_X7_isIn by9 (-320) 320) = 0 then if ((r_X7_isRefused (f_X7_isNoCell cell) (1 : Int32) S).1) = 0 then (0, (r_X7_isRefused (f_X7_isNoCell cell) (1 : Int32) S).2) else (0, (r_X7_isRefused (f_X7_isNoCell cell) (1 : Int32) S).2) else if ((r_X7_isRefused (f_X7_isNoCell cell) (0 : Int32) S).1) = 0 then if ((((r_X7_isRefused (f_X7_isNoCell cell) (0 : Int32) S).2).1) cell.toNatClampNeg) = 0 then if (f_X7_isIn (((((r_X7_isRefused (f_X7_isNoCell cell) (0 : Int32) S).2).2.1) cell.toNatClampNeg) + by9) (-160) 160) = 0 then ((r_X7_refused ((r_X7_isRefused (f_X7_isNoCell cell) (0 : Int32) S).2)).1, (r_X7_refused ((r_X7_isRefused (f_X7_isNoCell cell) (0 : Int32) S).2)).2) else ((r_X7_come cell (0 : Int32) (((((r_X7_isRefused (f_X7_isNoCell cell) (0 : Int32) S).2).2.1) cell.toNatClampNeg) + by9) (0 : Int32) ((r_X7_isRefused (f_X7_isNoCell cell) (0 : Int32) S).2)).1, (r_X7_come cell (0 : Int32) (((((r_X7_isRefused (f_X7_isNoCell cell) (0 : Int32) S).2).2.1) cell.toNatClampNeg) + by9) (0 : Int32) ((r_X7_isRefused (f_X7_isNoCell cell) (0 : Int32) S).2)).2) else ((r_X7_refused ((r_X7_isRefused (f_X7_isNoCell cell) (0 : Int32) S).2)).1, (r_X7_refused ((r_X7_isRefused (f_X7_isNoCell cell) (0 : Int32) S).2)).2) else (0, (r_X7_isRefused (f_X7_isNoCell cell) (0 : Int32) S).2)
set_option maxRecDepth 4000 in
theorem mt_X7_step (hp : qq_H) (A : qA) (S : sM) (hS : ms_M A S hp) (cell : Int32) (by9 : Int32)      : qq_Mt mX7_step [.ref 84, .int cell, .int by9] hp 0 0 (fun v hp' => v = some (.int ((r_X7_step cell by9 S).1)) ∧ ms_M A ((r_X7_step cell by9 S).2) hp' ∧ fr A hp hp') (fun _ _ => False) := by
  refine qq_met pn_X7 (Nat.le_of_ble_eq_true rfl) (Nat.le_of_ble_eq_true rfl) kc_X7_step ?_
  show qq_Go _ hp 0 0 0 [(0, .ref 84), (1, .int cell), (2, .int by9)] [] _ _
  refine qq_aload_n dX7_step_0 rfl 0 rfl ?_
  refine qq_iload_n dX7_step_1 rfl 1 rfl ?_
  refine qq_less (bc' := 0 + 0) (bs' := 0 + 0) (by omega) (by omega) ?_
  refine qq_callS (bc := 0) (bs := 0) (mc := 0) (ms := 0) (as := [.int cell]) (rest := [.ref 84]) dX7_step_2 (mt_X7_isNoCell hp cell) rfl kl_X7_123 ks_X7_isNoCell ki_X7 kc_X7_isNoCell kd_X7_isNoCell rfl (by decide) (by decide) (Nat.le_of_ble_eq_true rfl) (fun v hp' hv _ _ => ?_) (fun E hp' zx _ _ => zx.elim)
  obtain ⟨rfl, rfl⟩ := hv
  show qq_Go _ hp (0) (0) 5 [(0, .ref 84), (1, .int cell), (2, .int by9)] [.int (f_X7_isNoCell cell), .ref 84] _ _
  refine qq_iload_n dX7_step_5 rfl 2 rfl ?_
  refine qq_sipush (v := (-320)) dX7_step_6 (by decide) ?_
  refine qq_sipush (v := 320) dX7_step_9 (by decide) ?_
  refine qq_less (bc' := 0 + 0) (bs' := 0 + 0) (by omega) (by omega) ?_
  refine qq_callS (bc := 0) (bs := 0) (mc := 0) (ms := 0) (as := [.int by9, .int (-320), .int 320]) (rest := [.int (f_X7_isNoCell cell), .ref 84]) dX7_step_12 (mt_X7_isIn hp by9 (-320 : Int32) (320 : Int32)) rfl kl_X7_113 ks_X7_isIn ki_X7 kc_X7_isIn kd_X7_isIn rfl (by decide) (by decide) (Nat.le_of_ble_eq_true rfl) (fun v hp' hv _ _ => ?_) (fun E hp' zx _ _ => zx.elim)
  obtain ⟨rfl, rfl⟩ := hv
  show qq_Go _ hp (0) (0) 15 [(0, .ref 84), (1, .int cell), (2, .int by9)] [.int (f_X7_isIn by9 (-320) 320), .int (f_X7_isNoCell cell), .ref 84] _ _
  refine qq_if_ne (tgt := 22) dX7_step_15 (by decide) (fun zc1 => ?_) (fun zc1 => ?_)
  · refine qq_iconst (v := 0) dX7_step_22 (by decide) ?_
    refine qq_less (bc' := 0 + 0) (bs' := 0 + 0) (by omega) (by omega) ?_
    refine qq_callV (bc := 0) (bs := 0) (mc := 0) (ms := 0) (o := 84) (ci := 4) (N := 11) (T := TX7) (as := [.int (f_X7_isNoCell cell), .int 0]) (rest := []) dX7_step_23 hS.2.2.1 (by decide) rfl (mt_X7_isRefused hp A S hS (f_X7_isNoCell cell) (0 : Int32) ) rfl kl_X7_126 kn_X7_isRefused ke_X7_isRefused ki_X7 kc_X7_isRefused kd_X7_isRefused rfl (by decide) (by decide) (Nat.le_of_ble_eq_true rfl) (fun v hp1 hv _ _ => ?_) (fun E hp' zx _ _ => zx.elim)
    obtain ⟨rfl, hS1, fr1⟩ := hv
    show qq_Go _ hp1 (0) (0) 26 [(0, .ref 84), (1, .int cell), (2, .int by9)] [.int ((r_X7_isRefused (f_X7_isNoCell cell) (0 : Int32) S).1)] _ _
    refine qq_if_eq (tgt := 31) dX7_step_26 (by decide) (fun zc2 => ?_) (fun zc2 => ?_)
    · have zv1 := qx_cell (qx_ref zc2)
      refine qq_aload_n dX7_step_31 rfl 0 rfl ?_
      refine mx_get hS1 dX7_step_32 4 (by decide) rfl kl_X7_28 ?_
      refine qq_iload_n dX7_step_35 rfl 1 rfl ?_
      refine qq_iald dX7_step_36 hS1.2.2.2.1 zv1 ?_
      refine qq_if_ne (tgt := 60) dX7_step_37 (by decide) (fun zc3 => ?_) (fun zc3 => ?_)
      · refine qq_aload_n dX7_step_60 rfl 0 rfl ?_
        refine qq_less (bc' := 0 + 0) (bs' := 0 + 0) (by omega) (by omega) ?_
        refine qq_callV (bc := 0) (bs := 0) (mc := 0) (ms := 0) (o := 84) (ci := 4) (N := 11) (T := TX7) (as := []) (rest := []) dX7_step_61 hS1.2.2.1 (by decide) rfl (mt_X7_refused hp1 A ((r_X7_isRefused (f_X7_isNoCell cell) (0 : Int32) S).2) hS1 ) rfl kl_X7_134 kn_X7_refused ke_X7_refused ki_X7 kc_X7_refused kd_X7_refused rfl (by decide) (by decide) (Nat.le_of_ble_eq_true rfl) (fun v hp2 hv _ _ => ?_) (fun E hp' zx _ _ => zx.elim)
        obtain ⟨rfl, hS2, fr2⟩ := hv
        show qq_Go _ hp2 (0) (0) 64 [(0, .ref 84), (1, .int cell), (2, .int by9)] [.int ((r_X7_refused ((r_X7_isRefused (f_X7_isNoCell cell) (0 : Int32) S).2)).1)] _ _
        refine qq_goto (tgt := 82) dX7_step_64 (by decide) ?_
        have ze : r_X7_step cell by9 S = ((r_X7_refused ((r_X7_isRefused (f_X7_isNoCell cell) (0 : Int32) S).2)).1, (r_X7_refused ((r_X7_isRefused (f_X7_isNoCell cell) (0 : Int32) S).2)).2) := by
          rw [r_X7_step, if_neg zc1, if_pos zc2, if_neg zc3]
        exact qq_iret dX7_step_82 rfl rfl ⟨by rw [ze], by rw [ze]; first | exact ms_pr hS2 | exact hS2, (fr_t fr1 fr2)⟩
      · refine qq_aload_n dX7_step_40 rfl 0 rfl ?_
        refine mx_get hS1 dX7_step_41 5 (by decide) rfl kl_X7_31 ?_
        refine qq_iload_n dX7_step_44 rfl 1 rfl ?_
        refine qq_iald dX7_step_45 hS1.2.2.2.2.1 zv1 ?_
        refine qq_iload_n dX7_step_46 rfl 2 rfl ?_
        refine qq_iadd dX7_step_47 ?_
        refine qq_sipush (v := (-160)) dX7_step_48 (by decide) ?_
        refine qq_sipush (v := 160) dX7_step_51 (by decide) ?_
        refine qq_less (bc' := 0 + 0) (bs' := 0 + 0) (by omega) (by omega) ?_
        refine qq_callS (bc := 0) (bs := 0) (mc := 0) (ms := 0) (as := [.int (((((r_X7_isRefused (f_X7_isNoCell cell) (0 : Int32) S).2).2.1) cell.toNatClampNeg) + by9), .int (-160), .int 160]) (rest := []) dX7_step_54 (mt_X7_isIn hp1 (((((r_X7_isRefused (f_X7_isNoCell cell) (0 : Int32) S).2).2.1) cell.toNatClampNeg) + by9) (-160 : Int32) (160 : Int32)) rfl kl_X7_113 ks_X7_isIn ki_X7 kc_X7_isIn kd_X7_isIn rfl (by decide) (by decide) (Nat.le_of_ble_eq_true rfl) (fun v hp' hv _ _ => ?_) (fun E hp' zx _ _ => zx.elim)
        obtain ⟨rfl, rfl⟩ := hv
        show qq_Go _ hp1 (0) (0) 57 [(0, .ref 84), (1, .int cell), (2, .int by9)] [.int (f_X7_isIn (((((r_X7_isRefused (f_X7_isNoCell cell) (0 : Int32) S).2).2.1) cell.toNatClampNeg) + by9) (-160) 160)] _ _
        refine qq_if_ne (tgt := 67) dX7_step_57 (by decide) (fun zc4 => ?_) (fun zc4 => ?_)
        · refine qq_aload_n dX7_step_67 rfl 0 rfl ?_
          refine qq_iload_n dX7_step_68 rfl 1 rfl ?_
          refine qq_iconst (v := 0) dX7_step_69 (by decide) ?_
          refine qq_aload_n dX7_step_70 rfl 0 rfl ?_
          refine mx_get hS1 dX7_step_71 5 (by decide) rfl kl_X7_31 ?_
          refine qq_iload_n dX7_step_74 rfl 1 rfl ?_
          refine qq_iald dX7_step_75 hS1.2.2.2.2.1 zv1 ?_
          refine qq_iload_n dX7_step_76 rfl 2 rfl ?_
          refine qq_iadd dX7_step_77 ?_
          refine qq_iconst (v := 0) dX7_step_78 (by decide) ?_
          refine qq_less (bc' := 0 + 0) (bs' := 0 + 0) (by omega) (by omega) ?_
          refine qq_callV (bc := 0) (bs := 0) (mc := 0) (ms := 0) (o := 84) (ci := 4) (N := 11) (T := TX7) (as := [.int cell, .int 0, .int (((((r_X7_isRefused (f_X7_isNoCell cell) (0 : Int32) S).2).2.1) cell.toNatClampNeg) + by9), .int 0]) (rest := []) dX7_step_79 hS1.2.2.1 (by decide) rfl (mt_X7_come hp1 A ((r_X7_isRefused (f_X7_isNoCell cell) (0 : Int32) S).2) hS1 cell (0 : Int32) (((((r_X7_isRefused (f_X7_isNoCell cell) (0 : Int32) S).2).2.1) cell.toNatClampNeg) + by9) (0 : Int32) zv1) rfl kl_X7_130 kn_X7_come ke_X7_come ki_X7 kc_X7_come kd_X7_come rfl (by decide) (by decide) (Nat.le_of_ble_eq_true rfl) (fun v hp3 hv _ _ => ?_) (fun E hp' zx _ _ => zx.elim)
          obtain ⟨rfl, hS3, fr3⟩ := hv
          show qq_Go _ hp3 (0) (0) 82 [(0, .ref 84), (1, .int cell), (2, .int by9)] [.int ((r_X7_come cell (0 : Int32) (((((r_X7_isRefused (f_X7_isNoCell cell) (0 : Int32) S).2).2.1) cell.toNatClampNeg) + by9) (0 : Int32) ((r_X7_isRefused (f_X7_isNoCell cell) (0 : Int32) S).2)).1)] _ _
          have ze : r_X7_step cell by9 S = ((r_X7_come cell (0 : Int32) (((((r_X7_isRefused (f_X7_isNoCell cell) (0 : Int32) S).2).2.1) cell.toNatClampNeg) + by9) (0 : Int32) ((r_X7_isRefused (f_X7_isNoCell cell) (0 : Int32) S).2)).1, (r_X7_come cell (0 : Int32) (((((r_X7_isRefused (f_X7_isNoCell cell) (0 : Int32) S).2).2.1) cell.toNatClampNeg) + by9) (0 : Int32) ((r_X7_isRefused (f_X7_isNoCell cell) (0 : Int32) S).2)).2) := by
            rw [r_X7_step, if_neg zc1, if_pos zc2, if_pos zc3, if_neg zc4]
          exact qq_iret dX7_step_82 rfl rfl ⟨by rw [ze], by rw [ze]; first | exact ms_pr hS3 | exact hS3, (fr_t fr1 fr3)⟩
        · refine qq_aload_n dX7_step_60 rfl 0 rfl ?_
          refine qq_less (bc' := 0 + 0) (bs' := 0 + 0) (by omega) (by omega) ?_
          refine qq_callV (bc := 0) (bs := 0) (mc := 0) (ms := 0) (o := 84) (ci := 4) (N := 11) (T := TX7) (as := []) (rest := []) dX7_step_61 hS1.2.2.1 (by decide) rfl (mt_X7_refused hp1 A ((r_X7_isRefused (f_X7_isNoCell cell) (0 : Int32) S).2) hS1 ) rfl kl_X7_134 kn_X7_refused ke_X7_refused ki_X7 kc_X7_refused kd_X7_refused rfl (by decide) (by decide) (Nat.le_of_ble_eq_true rfl) (fun v hp4 hv _ _ => ?_) (fun E hp' zx _ _ => zx.elim)
          obtain ⟨rfl, hS4, fr4⟩ := hv
          show qq_Go _ hp4 (0) (0) 64 [(0, .ref 84), (1, .int cell), (2, .int by9)] [.int ((r_X7_refused ((r_X7_isRefused (f_X7_isNoCell cell) (0 : Int32) S).2)).1)] _ _
          refine qq_goto (tgt := 82) dX7_step_64 (by decide) ?_
          have ze : r_X7_step cell by9 S = ((r_X7_refused ((r_X7_isRefused (f_X7_isNoCell cell) (0 : Int32) S).2)).1, (r_X7_refused ((r_X7_isRefused (f_X7_isNoCell cell) (0 : Int32) S).2)).2) := by
            rw [r_X7_step, if_neg zc1, if_pos zc2, if_pos zc3, if_pos zc4]
          exact qq_iret dX7_step_82 rfl rfl ⟨by rw [ze], by rw [ze]; first | exact ms_pr hS4 | exact hS4, (fr_t fr1 fr4)⟩
    · refine qq_iconst (v := 0) dX7_step_29 (by decide) ?_
      have ze : r_X7_step cell by9 S = (0, (r_X7_isRefused (f_X7_isNoCell cell) (0 : Int32) S).2) := by
        rw [r_X7_step, if_neg zc1, if_neg zc2]
      exact qq_iret dX7_step_30 rfl rfl ⟨by rw [ze], by rw [ze]; first | exact ms_pr hS1 | exact hS1, fr1⟩
  · refine qq_iconst (v := 1) dX7_step_18 (by decide) ?_
    refine qq_goto (tgt := 23) dX7_step_19 (by decide) ?_
    refine qq_less (bc' := 0 + 0) (bs' := 0 + 0) (by omega) (by omega) ?_
    refine qq_callV (bc := 0) (bs := 0) (mc := 0) (ms := 0) (o := 84) (ci := 4) (N := 11) (T := TX7) (as := [.int (f_X7_isNoCell cell), .int 1]) (rest := []) dX7_step_23 hS.2.2.1 (by decide) rfl (mt_X7_isRefused hp A S hS (f_X7_isNoCell cell) (1 : Int32) ) rfl kl_X7_126 kn_X7_isRefused ke_X7_isRefused ki_X7 kc_X7_isRefused kd_X7_isRefused rfl (by decide) (by decide) (Nat.le_of_ble_eq_true rfl) (fun v hp5 hv _ _ => ?_) (fun E hp' zx _ _ => zx.elim)
    obtain ⟨rfl, hS5, fr5⟩ := hv
    show qq_Go _ hp5 (0) (0) 26 [(0, .ref 84), (1, .int cell), (2, .int by9)] [.int ((r_X7_isRefused (f_X7_isNoCell cell) (1 : Int32) S).1)] _ _
    refine qq_if_eq (tgt := 31) dX7_step_26 (by decide) (fun zc5 => ?_) (fun zc5 => ?_)
    · exact absurd zc5 qx_2
    · refine qq_iconst (v := 0) dX7_step_29 (by decide) ?_
      have ze : r_X7_step cell by9 S = (0, (r_X7_isRefused (f_X7_isNoCell cell) (1 : Int32) S).2) := by
        rw [r_X7_step, if_pos zc1, if_neg zc5]
      exact qq_iret dX7_step_30 rfl rfl ⟨by rw [ze], by rw [ze]; first | exact ms_pr hS5 | exact hS5, fr5⟩
def r_X7_turn (cell : Int32)  (S : sM) : Int32 × sM := if ((r_X7_isRefused (f_X7_isNoCell cell) (0 : Int32) S).1) = 0 then if ((((r_X7_isRefused (f_X7_isNoCell cell) (0 : Int32) S).2).1) cell.toNatClampNeg) ≤ 1 then if ((((r_X7_isRefused (f_X7_isNoCell cell) (0 : Int32) S).2).1) cell.toNatClampNeg) = 1 then if ((((r_X7_isRefused (f_X7_isNoCell cell) (0 : Int32) S).2).2.2.1) cell.toNatClampNeg) = 0 then ((r_X7_come cell ((((r_X7_isRefused (f_X7_isNoCell cell) (0 : Int32) S).2).1) cell.toNatClampNeg) (-((((r_X7_isRefused (f_X7_isNoCell cell) (0 : Int32) S).2).2.1) cell.toNatClampNeg)) (1 : Int32) ((r_X7_isRefused (f_X7_isNoCell cell) (0 : Int32) S).2)).1, (r_X7_come cell ((((r_X7_isRefused (f_X7_isNoCell cell) (0 : Int32) S).2).1) cell.toNatClampNeg) (-((((r_X7_isRefused (f_X7_isNoCell cell) (0 : Int32) S).2).2.1) cell.toNatClampNeg)) (1 : Int32) ((r_X7_isRefused (f_X7_isNoCell cell) (0 : Int32) S).2)).2) else ((r_X7_come cell ((((r_X7_isRefused (f_X7_isNoCell cell) (0 : Int32) S).2).1) cell.toNatClampNeg) (-((((r_X7_isRefused (f_X7_isNoCell cell) (0 : Int32) S).2).2.1) cell.toNatClampNeg)) (0 : Int32) ((r_X7_isRefused (f_X7_isNoCell cell) (0 : Int32) S).2)).1, (r_X7_come cell ((((r_X7_isRefused (f_X7_isNoCell cell) (0 : Int32) S).2).1) cell.toNatClampNeg) (-((((r_X7_isRefused (f_X7_isNoCell cell) (0 : Int32) S).2).2.1) cell.toNatClampNeg)) (0 : Int32) ((r_X7_isRefused (f_X7_isNoCell cell) (0 : Int32) S).2)).2) else if ((((r_X7_isRefused (f_X7_isNoCell cell) (0 : Int32) S).2).2.1) cell.toNatClampNeg) = 0 then if ((((r_X7_isRefused (f_X7_isNoCell cell) (0 : Int32) S).2).2.2.1) cell.toNatClampNeg) = 0 then ((r_X7_come cell ((((r_X7_isRefused (f_X7_isNoCell cell) (0 : Int32) S).2).1) cell.toNatClampNeg) (-((((r_X7_isRefused (f_X7_isNoCell cell) (0 : Int32) S).2).2.1) cell.toNatClampNeg)) (1 : Int32) ((r_X7_isRefused (f_X7_isNoCell cell) (0 : Int32) S).2)).1, (r_X7_come cell ((((r_X7_isRefused (f_X7_isNoCell cell) (0 : Int32) S).2).1) cell.toNatClampNeg) (-((((r_X7_isRefused (f_X7_isNoCell cell) (0 : Int32) S).2).2.1) cell.toNatClampNeg)) (1 : Int32) ((r_X7_isRefused (f_X7_isNoCell cell) (0 : Int32) S).2)).2) else ((r_X7_come cell ((((r_X7_isRefused (f_X7_isNoCell cell) (0 : Int32) S).2).1) cell.toNatClampNeg) (-((((r_X7_isRefused (f_X7_isNoCell cell) (0 : Int32) S).2).2.1) cell.toNatClampNeg)) (0 : Int32) ((r_X7_isRefused (f_X7_isNoCell cell) (0 : Int32) S).2)).1, (r_X7_come cell ((((r_X7_isRefused (f_X7_isNoCell cell) (0 : Int32) S).2).1) cell.toNatClampNeg) (-((((r_X7_isRefused (f_X7_isNoCell cell) (0 : Int32) S).2).2.1) cell.toNatClampNeg)) (0 : Int32) ((r_X7_isRefused (f_X7_isNoCell cell) (0 : Int32) S).2)).2) else ((r_X7_come cell ((((r_X7_isRefused (f_X7_isNoCell cell) (0 : Int32) S).2).1) cell.toNatClampNeg) (-((((r_X7_isRefused (f_X7_isNoCell cell) (0 : Int32) S).2).2.1) cell.toNatClampNeg)) (0 : Int32) ((r_X7_isRefused (f_X7_isNoCell cell) (0 : Int32) S).2)).1, (r_X7_come cell ((((r_X7_isRefused (f_X7_isNoCell cell) (0 : Int32) S).2).1) cell.toNatClampNeg) (-((((r_X7_isRefused (f_X7_isNoCell cell) (0 : Int32) S).2).2.1) cell.toNatClampNeg)) (0 : Int32) ((r_X7_isRefused (f_X7_isNoCell cell) (0 : Int32) S).2)).2) else ((r_X7_refused ((r_X7_isRefused (f_X7_isNoCell cell) (0 : Int32) S).2)).1, (r_X7_refused ((r_X7_isRefused (f_X7_isNoCell cell) (0 : Int32) S).2)).2) else (0, (r_X7_isRefused (f_X7_isNoCell cell) (0 : Int32) S).2)
set_option maxRecDepth 4000 in
theorem mt_X7_turn (hp : qq_H) (A : qA) (S : sM) (hS : ms_M A S hp) (cell : Int32)      : qq_Mt mX7_turn [.ref 84, .int cell] hp 0 0 (fun v hp' => v = some (.int ((r_X7_turn cell S).1)) ∧ ms_M A ((r_X7_turn cell S).2) hp' ∧ fr A hp hp') (fun _ _ => False) := by
  refine qq_met pn_X7 (Nat.le_of_ble_eq_true rfl) (Nat.le_of_ble_eq_true rfl) kc_X7_turn ?_
  show qq_Go _ hp 0 0 0 [(0, .ref 84), (1, .int cell)] [] _ _
  refine qq_aload_n dX7_turn_0 rfl 0 rfl ?_
  refine qq_iload_n dX7_turn_1 rfl 1 rfl ?_
  refine qq_less (bc' := 0 + 0) (bs' := 0 + 0) (by omega) (by omega) ?_
  refine qq_callS (bc := 0) (bs := 0) (mc := 0) (ms := 0) (as := [.int cell]) (rest := [.ref 84]) dX7_turn_2 (mt_X7_isNoCell hp cell) rfl kl_X7_123 ks_X7_isNoCell ki_X7 kc_X7_isNoCell kd_X7_isNoCell rfl (by decide) (by decide) (Nat.le_of_ble_eq_true rfl) (fun v hp' hv _ _ => ?_) (fun E hp' zx _ _ => zx.elim)
  obtain ⟨rfl, rfl⟩ := hv
  show qq_Go _ hp (0) (0) 5 [(0, .ref 84), (1, .int cell)] [.int (f_X7_isNoCell cell), .ref 84] _ _
  refine qq_iconst (v := 0) dX7_turn_5 (by decide) ?_
  refine qq_less (bc' := 0 + 0) (bs' := 0 + 0) (by omega) (by omega) ?_
  refine qq_callV (bc := 0) (bs := 0) (mc := 0) (ms := 0) (o := 84) (ci := 4) (N := 11) (T := TX7) (as := [.int (f_X7_isNoCell cell), .int 0]) (rest := []) dX7_turn_6 hS.2.2.1 (by decide) rfl (mt_X7_isRefused hp A S hS (f_X7_isNoCell cell) (0 : Int32) ) rfl kl_X7_126 kn_X7_isRefused ke_X7_isRefused ki_X7 kc_X7_isRefused kd_X7_isRefused rfl (by decide) (by decide) (Nat.le_of_ble_eq_true rfl) (fun v hp1 hv _ _ => ?_) (fun E hp' zx _ _ => zx.elim)
  obtain ⟨rfl, hS1, fr1⟩ := hv
  show qq_Go _ hp1 (0) (0) 9 [(0, .ref 84), (1, .int cell)] [.int ((r_X7_isRefused (f_X7_isNoCell cell) (0 : Int32) S).1)] _ _
  refine qq_if_eq (tgt := 14) dX7_turn_9 (by decide) (fun zc1 => ?_) (fun zc1 => ?_)
  · have zv1 := qx_cell (qx_ref zc1)
    refine qq_aload_n dX7_turn_14 rfl 0 rfl ?_
    refine mx_get hS1 dX7_turn_15 4 (by decide) rfl kl_X7_28 ?_
    refine qq_iload_n dX7_turn_18 rfl 1 rfl ?_
    refine qq_iald dX7_turn_19 hS1.2.2.2.1 zv1 ?_
    refine qq_iconst (v := 1) dX7_turn_20 (by decide) ?_
    refine qq_icmp_le (tgt := 29) dX7_turn_21 (by decide) (fun zc2 => ?_) (fun zc2 => ?_)
    · refine qq_aload_n dX7_turn_29 rfl 0 rfl ?_
      refine mx_get hS1 dX7_turn_30 4 (by decide) rfl kl_X7_28 ?_
      refine qq_iload_n dX7_turn_33 rfl 1 rfl ?_
      refine qq_iald dX7_turn_34 hS1.2.2.2.1 zv1 ?_
      refine qq_iconst (v := 1) dX7_turn_35 (by decide) ?_
      refine qq_icmp_eq (tgt := 48) dX7_turn_36 (by decide) (fun zc3 => ?_) (fun zc3 => ?_)
      · refine qq_iconst (v := 1) dX7_turn_48 (by decide) ?_
        refine qq_goto (tgt := 53) dX7_turn_49 (by decide) ?_
        refine qq_istore_n (loc' := [(0, .ref 84), (1, .int cell), (2, .int 1)]) dX7_turn_53 rfl [1, 2, 0] (Nat.le_of_ble_eq_true rfl) rfl ?_
        refine qq_aload_n dX7_turn_54 rfl 0 rfl ?_
        refine qq_iload_n dX7_turn_55 rfl 1 rfl ?_
        refine qq_aload_n dX7_turn_56 rfl 0 rfl ?_
        refine mx_get hS1 dX7_turn_57 4 (by decide) rfl kl_X7_28 ?_
        refine qq_iload_n dX7_turn_60 rfl 1 rfl ?_
        refine qq_iald dX7_turn_61 hS1.2.2.2.1 zv1 ?_
        refine qq_aload_n dX7_turn_62 rfl 0 rfl ?_
        refine mx_get hS1 dX7_turn_63 5 (by decide) rfl kl_X7_31 ?_
        refine qq_iload_n dX7_turn_66 rfl 1 rfl ?_
        refine qq_iald dX7_turn_67 hS1.2.2.2.2.1 zv1 ?_
        refine qq_ineg dX7_turn_68 ?_
        refine qq_iload_n dX7_turn_69 rfl 2 rfl ?_
        refine qq_if_eq (tgt := 86) dX7_turn_70 (by decide) (fun z => absurd z (by decide)) (fun _ => ?_)
        refine qq_aload_n dX7_turn_73 rfl 0 rfl ?_
        refine mx_get hS1 dX7_turn_74 6 (by decide) rfl kl_X7_34 ?_
        refine qq_iload_n dX7_turn_77 rfl 1 rfl ?_
        refine qq_zald dX7_turn_78 hS1.2.2.2.2.2.1 zv1 ?_
        refine qq_if_ne (tgt := 86) dX7_turn_79 (by decide) (fun zc4 => ?_) (fun zc4 => ?_)
        · refine qq_iconst (v := 0) dX7_turn_86 (by decide) ?_
          refine qq_less (bc' := 0 + 0) (bs' := 0 + 0) (by omega) (by omega) ?_
          refine qq_callV (bc := 0) (bs := 0) (mc := 0) (ms := 0) (o := 84) (ci := 4) (N := 11) (T := TX7) (as := [.int cell, .int ((((r_X7_isRefused (f_X7_isNoCell cell) (0 : Int32) S).2).1) cell.toNatClampNeg), .int (-((((r_X7_isRefused (f_X7_isNoCell cell) (0 : Int32) S).2).2.1) cell.toNatClampNeg)), .int 0]) (rest := []) dX7_turn_87 hS1.2.2.1 (by decide) rfl (mt_X7_come hp1 A ((r_X7_isRefused (f_X7_isNoCell cell) (0 : Int32) S).2) hS1 cell ((((r_X7_isRefused (f_X7_isNoCell cell) (0 : Int32) S).2).1) cell.toNatClampNeg) (-((((r_X7_isRefused (f_X7_isNoCell cell) (0 : Int32) S).2).2.1) cell.toNatClampNeg)) (0 : Int32) zv1) rfl kl_X7_130 kn_X7_come ke_X7_come ki_X7 kc_X7_come kd_X7_come rfl (by decide) (by decide) (Nat.le_of_ble_eq_true rfl) (fun v hp2 hv _ _ => ?_) (fun E hp' zx _ _ => zx.elim)
          obtain ⟨rfl, hS2, fr2⟩ := hv
          show qq_Go _ hp2 (0) (0) 90 [(0, .ref 84), (1, .int cell), (2, .int 1)] [.int ((r_X7_come cell ((((r_X7_isRefused (f_X7_isNoCell cell) (0 : Int32) S).2).1) cell.toNatClampNeg) (-((((r_X7_isRefused (f_X7_isNoCell cell) (0 : Int32) S).2).2.1) cell.toNatClampNeg)) (0 : Int32) ((r_X7_isRefused (f_X7_isNoCell cell) (0 : Int32) S).2)).1)] _ _
          have ze : r_X7_turn cell S = ((r_X7_come cell ((((r_X7_isRefused (f_X7_isNoCell cell) (0 : Int32) S).2).1) cell.toNatClampNeg) (-((((r_X7_isRefused (f_X7_isNoCell cell) (0 : Int32) S).2).2.1) cell.toNatClampNeg)) (0 : Int32) ((r_X7_isRefused (f_X7_isNoCell cell) (0 : Int32) S).2)).1, (r_X7_come cell ((((r_X7_isRefused (f_X7_isNoCell cell) (0 : Int32) S).2).1) cell.toNatClampNeg) (-((((r_X7_isRefused (f_X7_isNoCell cell) (0 : Int32) S).2).2.1) cell.toNatClampNeg)) (0 : Int32) ((r_X7_isRefused (f_X7_isNoCell cell) (0 : Int32) S).2)).2) := by
            rw [r_X7_turn, if_pos zc1, if_pos zc2, if_pos zc3, if_neg zc4]
          exact qq_iret dX7_turn_90 rfl rfl ⟨by rw [ze], by rw [ze]; first | exact ms_pr hS2 | exact hS2, (fr_t fr1 fr2)⟩
        · refine qq_iconst (v := 1) dX7_turn_82 (by decide) ?_
          refine qq_goto (tgt := 87) dX7_turn_83 (by decide) ?_
          refine qq_less (bc' := 0 + 0) (bs' := 0 + 0) (by omega) (by omega) ?_
          refine qq_callV (bc := 0) (bs := 0) (mc := 0) (ms := 0) (o := 84) (ci := 4) (N := 11) (T := TX7) (as := [.int cell, .int ((((r_X7_isRefused (f_X7_isNoCell cell) (0 : Int32) S).2).1) cell.toNatClampNeg), .int (-((((r_X7_isRefused (f_X7_isNoCell cell) (0 : Int32) S).2).2.1) cell.toNatClampNeg)), .int 1]) (rest := []) dX7_turn_87 hS1.2.2.1 (by decide) rfl (mt_X7_come hp1 A ((r_X7_isRefused (f_X7_isNoCell cell) (0 : Int32) S).2) hS1 cell ((((r_X7_isRefused (f_X7_isNoCell cell) (0 : Int32) S).2).1) cell.toNatClampNeg) (-((((r_X7_isRefused (f_X7_isNoCell cell) (0 : Int32) S).2).2.1) cell.toNatClampNeg)) (1 : Int32) zv1) rfl kl_X7_130 kn_X7_come ke_X7_come ki_X7 kc_X7_come kd_X7_come rfl (by decide) (by decide) (Nat.le_of_ble_eq_true rfl) (fun v hp3 hv _ _ => ?_) (fun E hp' zx _ _ => zx.elim)
          obtain ⟨rfl, hS3, fr3⟩ := hv
          show qq_Go _ hp3 (0) (0) 90 [(0, .ref 84), (1, .int cell), (2, .int 1)] [.int ((r_X7_come cell ((((r_X7_isRefused (f_X7_isNoCell cell) (0 : Int32) S).2).1) cell.toNatClampNeg) (-((((r_X7_isRefused (f_X7_isNoCell cell) (0 : Int32) S).2).2.1) cell.toNatClampNeg)) (1 : Int32) ((r_X7_isRefused (f_X7_isNoCell cell) (0 : Int32) S).2)).1)] _ _
          have ze : r_X7_turn cell S = ((r_X7_come cell ((((r_X7_isRefused (f_X7_isNoCell cell) (0 : Int32) S).2).1) cell.toNatClampNeg) (-((((r_X7_isRefused (f_X7_isNoCell cell) (0 : Int32) S).2).2.1) cell.toNatClampNeg)) (1 : Int32) ((r_X7_isRefused (f_X7_isNoCell cell) (0 : Int32) S).2)).1, (r_X7_come cell ((((r_X7_isRefused (f_X7_isNoCell cell) (0 : Int32) S).2).1) cell.toNatClampNeg) (-((((r_X7_isRefused (f_X7_isNoCell cell) (0 : Int32) S).2).2.1) cell.toNatClampNeg)) (1 : Int32) ((r_X7_isRefused (f_X7_isNoCell cell) (0 : Int32) S).2)).2) := by
            rw [r_X7_turn, if_pos zc1, if_pos zc2, if_pos zc3, if_pos zc4]
          exact qq_iret dX7_turn_90 rfl rfl ⟨by rw [ze], by rw [ze]; first | exact ms_pr hS3 | exact hS3, (fr_t fr1 fr3)⟩
      · refine qq_aload_n dX7_turn_39 rfl 0 rfl ?_
        refine mx_get hS1 dX7_turn_40 5 (by decide) rfl kl_X7_31 ?_
        refine qq_iload_n dX7_turn_43 rfl 1 rfl ?_
        refine qq_iald dX7_turn_44 hS1.2.2.2.2.1 zv1 ?_
        refine qq_if_ne (tgt := 52) dX7_turn_45 (by decide) (fun zc5 => ?_) (fun zc5 => ?_)
        · refine qq_iconst (v := 0) dX7_turn_52 (by decide) ?_
          refine qq_istore_n (loc' := [(0, .ref 84), (1, .int cell), (2, .int 0)]) dX7_turn_53 rfl [1, 2, 0] (Nat.le_of_ble_eq_true rfl) rfl ?_
          refine qq_aload_n dX7_turn_54 rfl 0 rfl ?_
          refine qq_iload_n dX7_turn_55 rfl 1 rfl ?_
          refine qq_aload_n dX7_turn_56 rfl 0 rfl ?_
          refine mx_get hS1 dX7_turn_57 4 (by decide) rfl kl_X7_28 ?_
          refine qq_iload_n dX7_turn_60 rfl 1 rfl ?_
          refine qq_iald dX7_turn_61 hS1.2.2.2.1 zv1 ?_
          refine qq_aload_n dX7_turn_62 rfl 0 rfl ?_
          refine mx_get hS1 dX7_turn_63 5 (by decide) rfl kl_X7_31 ?_
          refine qq_iload_n dX7_turn_66 rfl 1 rfl ?_
          refine qq_iald dX7_turn_67 hS1.2.2.2.2.1 zv1 ?_
          refine qq_ineg dX7_turn_68 ?_
          refine qq_iload_n dX7_turn_69 rfl 2 rfl ?_
          refine qq_if_eq (tgt := 86) dX7_turn_70 (by decide) (fun _ => ?_) (fun z => absurd (by decide) z)
          refine qq_iconst (v := 0) dX7_turn_86 (by decide) ?_
          refine qq_less (bc' := 0 + 0) (bs' := 0 + 0) (by omega) (by omega) ?_
          refine qq_callV (bc := 0) (bs := 0) (mc := 0) (ms := 0) (o := 84) (ci := 4) (N := 11) (T := TX7) (as := [.int cell, .int ((((r_X7_isRefused (f_X7_isNoCell cell) (0 : Int32) S).2).1) cell.toNatClampNeg), .int (-((((r_X7_isRefused (f_X7_isNoCell cell) (0 : Int32) S).2).2.1) cell.toNatClampNeg)), .int 0]) (rest := []) dX7_turn_87 hS1.2.2.1 (by decide) rfl (mt_X7_come hp1 A ((r_X7_isRefused (f_X7_isNoCell cell) (0 : Int32) S).2) hS1 cell ((((r_X7_isRefused (f_X7_isNoCell cell) (0 : Int32) S).2).1) cell.toNatClampNeg) (-((((r_X7_isRefused (f_X7_isNoCell cell) (0 : Int32) S).2).2.1) cell.toNatClampNeg)) (0 : Int32) zv1) rfl kl_X7_130 kn_X7_come ke_X7_come ki_X7 kc_X7_come kd_X7_come rfl (by decide) (by decide) (Nat.le_of_ble_eq_true rfl) (fun v hp4 hv _ _ => ?_) (fun E hp' zx _ _ => zx.elim)
          obtain ⟨rfl, hS4, fr4⟩ := hv
          show qq_Go _ hp4 (0) (0) 90 [(0, .ref 84), (1, .int cell), (2, .int 0)] [.int ((r_X7_come cell ((((r_X7_isRefused (f_X7_isNoCell cell) (0 : Int32) S).2).1) cell.toNatClampNeg) (-((((r_X7_isRefused (f_X7_isNoCell cell) (0 : Int32) S).2).2.1) cell.toNatClampNeg)) (0 : Int32) ((r_X7_isRefused (f_X7_isNoCell cell) (0 : Int32) S).2)).1)] _ _
          have ze : r_X7_turn cell S = ((r_X7_come cell ((((r_X7_isRefused (f_X7_isNoCell cell) (0 : Int32) S).2).1) cell.toNatClampNeg) (-((((r_X7_isRefused (f_X7_isNoCell cell) (0 : Int32) S).2).2.1) cell.toNatClampNeg)) (0 : Int32) ((r_X7_isRefused (f_X7_isNoCell cell) (0 : Int32) S).2)).1, (r_X7_come cell ((((r_X7_isRefused (f_X7_isNoCell cell) (0 : Int32) S).2).1) cell.toNatClampNeg) (-((((r_X7_isRefused (f_X7_isNoCell cell) (0 : Int32) S).2).2.1) cell.toNatClampNeg)) (0 : Int32) ((r_X7_isRefused (f_X7_isNoCell cell) (0 : Int32) S).2)).2) := by
            rw [r_X7_turn, if_pos zc1, if_pos zc2, if_neg zc3, if_neg zc5]
          exact qq_iret dX7_turn_90 rfl rfl ⟨by rw [ze], by rw [ze]; first | exact ms_pr hS4 | exact hS4, (fr_t fr1 fr4)⟩
        · refine qq_iconst (v := 1) dX7_turn_48 (by decide) ?_
          refine qq_goto (tgt := 53) dX7_turn_49 (by decide) ?_
          refine qq_istore_n (loc' := [(0, .ref 84), (1, .int cell), (2, .int 1)]) dX7_turn_53 rfl [1, 2, 0] (Nat.le_of_ble_eq_true rfl) rfl ?_
          refine qq_aload_n dX7_turn_54 rfl 0 rfl ?_
          refine qq_iload_n dX7_turn_55 rfl 1 rfl ?_
          refine qq_aload_n dX7_turn_56 rfl 0 rfl ?_
          refine mx_get hS1 dX7_turn_57 4 (by decide) rfl kl_X7_28 ?_
          refine qq_iload_n dX7_turn_60 rfl 1 rfl ?_
          refine qq_iald dX7_turn_61 hS1.2.2.2.1 zv1 ?_
          refine qq_aload_n dX7_turn_62 rfl 0 rfl ?_
          refine mx_get hS1 dX7_turn_63 5 (by decide) rfl kl_X7_31 ?_
          refine qq_iload_n dX7_turn_66 rfl 1 rfl ?_
          refine qq_iald dX7_turn_67 hS1.2.2.2.2.1 zv1 ?_
          refine qq_ineg dX7_turn_68 ?_
          refine qq_iload_n dX7_turn_69 rfl 2 rfl ?_
          refine qq_if_eq (tgt := 86) dX7_turn_70 (by decide) (fun z => absurd z (by decide)) (fun _ => ?_)
          refine qq_aload_n dX7_turn_73 rfl 0 rfl ?_
          refine mx_get hS1 dX7_turn_74 6 (by decide) rfl kl_X7_34 ?_
          refine qq_iload_n dX7_turn_77 rfl 1 rfl ?_
          refine qq_zald dX7_turn_78 hS1.2.2.2.2.2.1 zv1 ?_
          refine qq_if_ne (tgt := 86) dX7_turn_79 (by decide) (fun zc6 => ?_) (fun zc6 => ?_)
          · refine qq_iconst (v := 0) dX7_turn_86 (by decide) ?_
            refine qq_less (bc' := 0 + 0) (bs' := 0 + 0) (by omega) (by omega) ?_
            refine qq_callV (bc := 0) (bs := 0) (mc := 0) (ms := 0) (o := 84) (ci := 4) (N := 11) (T := TX7) (as := [.int cell, .int ((((r_X7_isRefused (f_X7_isNoCell cell) (0 : Int32) S).2).1) cell.toNatClampNeg), .int (-((((r_X7_isRefused (f_X7_isNoCell cell) (0 : Int32) S).2).2.1) cell.toNatClampNeg)), .int 0]) (rest := []) dX7_turn_87 hS1.2.2.1 (by decide) rfl (mt_X7_come hp1 A ((r_X7_isRefused (f_X7_isNoCell cell) (0 : Int32) S).2) hS1 cell ((((r_X7_isRefused (f_X7_isNoCell cell) (0 : Int32) S).2).1) cell.toNatClampNeg) (-((((r_X7_isRefused (f_X7_isNoCell cell) (0 : Int32) S).2).2.1) cell.toNatClampNeg)) (0 : Int32) zv1) rfl kl_X7_130 kn_X7_come ke_X7_come ki_X7 kc_X7_come kd_X7_come rfl (by decide) (by decide) (Nat.le_of_ble_eq_true rfl) (fun v hp5 hv _ _ => ?_) (fun E hp' zx _ _ => zx.elim)
            obtain ⟨rfl, hS5, fr5⟩ := hv
            show qq_Go _ hp5 (0) (0) 90 [(0, .ref 84), (1, .int cell), (2, .int 1)] [.int ((r_X7_come cell ((((r_X7_isRefused (f_X7_isNoCell cell) (0 : Int32) S).2).1) cell.toNatClampNeg) (-((((r_X7_isRefused (f_X7_isNoCell cell) (0 : Int32) S).2).2.1) cell.toNatClampNeg)) (0 : Int32) ((r_X7_isRefused (f_X7_isNoCell cell) (0 : Int32) S).2)).1)] _ _
            have ze : r_X7_turn cell S = ((r_X7_come cell ((((r_X7_isRefused (f_X7_isNoCell cell) (0 : Int32) S).2).1) cell.toNatClampNeg) (-((((r_X7_isRefused (f_X7_isNoCell cell) (0 : Int32) S).2).2.1) cell.toNatClampNeg)) (0 : Int32) ((r_X7_isRefused (f_X7_isNoCell cell) (0 : Int32) S).2)).1, (r_X7_come cell ((((r_X7_isRefused (f_X7_isNoCell cell) (0 : Int32) S).2).1) cell.toNatClampNeg) (-((((r_X7_isRefused (f_X7_isNoCell cell) (0 : Int32) S).2).2.1) cell.toNatClampNeg)) (0 : Int32) ((r_X7_isRefused (f_X7_isNoCell cell) (0 : Int32) S).2)).2) := by
              rw [r_X7_turn, if_pos zc1, if_pos zc2, if_neg zc3, if_pos zc5, if_neg zc6]
            exact qq_iret dX7_turn_90 rfl rfl ⟨by rw [ze], by rw [ze]; first | exact ms_pr hS5 | exact hS5, (fr_t fr1 fr5)⟩
          · refine qq_iconst (v := 1) dX7_turn_82 (by decide) ?_
            refine qq_goto (tgt := 87) dX7_turn_83 (by decide) ?_
            refine qq_less (bc' := 0 + 0) (bs' := 0 + 0) (by omega) (by omega) ?_
            refine qq_callV (bc := 0) (bs := 0) (mc := 0) (ms := 0) (o := 84) (ci := 4) (N := 11) (T := TX7) (as := [.int cell, .int ((((r_X7_isRefused (f_X7_isNoCell cell) (0 : Int32) S).2).1) cell.toNatClampNeg), .int (-((((r_X7_isRefused (f_X7_isNoCell cell) (0 : Int32) S).2).2.1) cell.toNatClampNeg)), .int 1]) (rest := []) dX7_turn_87 hS1.2.2.1 (by decide) rfl (mt_X7_come hp1 A ((r_X7_isRefused (f_X7_isNoCell cell) (0 : Int32) S).2) hS1 cell ((((r_X7_isRefused (f_X7_isNoCell cell) (0 : Int32) S).2).1) cell.toNatClampNeg) (-((((r_X7_isRefused (f_X7_isNoCell cell) (0 : Int32) S).2).2.1) cell.toNatClampNeg)) (1 : Int32) zv1) rfl kl_X7_130 kn_X7_come ke_X7_come ki_X7 kc_X7_come kd_X7_come rfl (by decide) (by decide) (Nat.le_of_ble_eq_true rfl) (fun v hp6 hv _ _ => ?_) (fun E hp' zx _ _ => zx.elim)
            obtain ⟨rfl, hS6, fr6⟩ := hv
            show qq_Go _ hp6 (0) (0) 90 [(0, .ref 84), (1, .int cell), (2, .int 1)] [.int ((r_X7_come cell ((((r_X7_isRefused (f_X7_isNoCell cell) (0 : Int32) S).2).1) cell.toNatClampNeg) (-((((r_X7_isRefused (f_X7_isNoCell cell) (0 : Int32) S).2).2.1) cell.toNatClampNeg)) (1 : Int32) ((r_X7_isRefused (f_X7_isNoCell cell) (0 : Int32) S).2)).1)] _ _
            have ze : r_X7_turn cell S = ((r_X7_come cell ((((r_X7_isRefused (f_X7_isNoCell cell) (0 : Int32) S).2).1) cell.toNatClampNeg) (-((((r_X7_isRefused (f_X7_isNoCell cell) (0 : Int32) S).2).2.1) cell.toNatClampNeg)) (1 : Int32) ((r_X7_isRefused (f_X7_isNoCell cell) (0 : Int32) S).2)).1, (r_X7_come cell ((((r_X7_isRefused (f_X7_isNoCell cell) (0 : Int32) S).2).1) cell.toNatClampNeg) (-((((r_X7_isRefused (f_X7_isNoCell cell) (0 : Int32) S).2).2.1) cell.toNatClampNeg)) (1 : Int32) ((r_X7_isRefused (f_X7_isNoCell cell) (0 : Int32) S).2)).2) := by
              rw [r_X7_turn, if_pos zc1, if_pos zc2, if_neg zc3, if_pos zc5, if_pos zc6]
            exact qq_iret dX7_turn_90 rfl rfl ⟨by rw [ze], by rw [ze]; first | exact ms_pr hS6 | exact hS6, (fr_t fr1 fr6)⟩
    · refine qq_aload_n dX7_turn_24 rfl 0 rfl ?_
      refine qq_less (bc' := 0 + 0) (bs' := 0 + 0) (by omega) (by omega) ?_
      refine qq_callV (bc := 0) (bs := 0) (mc := 0) (ms := 0) (o := 84) (ci := 4) (N := 11) (T := TX7) (as := []) (rest := []) dX7_turn_25 hS1.2.2.1 (by decide) rfl (mt_X7_refused hp1 A ((r_X7_isRefused (f_X7_isNoCell cell) (0 : Int32) S).2) hS1 ) rfl kl_X7_134 kn_X7_refused ke_X7_refused ki_X7 kc_X7_refused kd_X7_refused rfl (by decide) (by decide) (Nat.le_of_ble_eq_true rfl) (fun v hp7 hv _ _ => ?_) (fun E hp' zx _ _ => zx.elim)
      obtain ⟨rfl, hS7, fr7⟩ := hv
      show qq_Go _ hp7 (0) (0) 28 [(0, .ref 84), (1, .int cell)] [.int ((r_X7_refused ((r_X7_isRefused (f_X7_isNoCell cell) (0 : Int32) S).2)).1)] _ _
      have ze : r_X7_turn cell S = ((r_X7_refused ((r_X7_isRefused (f_X7_isNoCell cell) (0 : Int32) S).2)).1, (r_X7_refused ((r_X7_isRefused (f_X7_isNoCell cell) (0 : Int32) S).2)).2) := by
        rw [r_X7_turn, if_pos zc1, if_neg zc2]
      exact qq_iret dX7_turn_28 rfl rfl ⟨by rw [ze], by rw [ze]; first | exact ms_pr hS7 | exact hS7, (fr_t fr1 fr7)⟩
  · refine qq_iconst (v := 0) dX7_turn_12 (by decide) ?_
    have ze : r_X7_turn cell S = (0, (r_X7_isRefused (f_X7_isNoCell cell) (0 : Int32) S).2) := by
      rw [r_X7_turn, if_neg zc1]
    exact qq_iret dX7_turn_13 rfl rfl ⟨by rw [ze], by rw [ze]; first | exact ms_pr hS1 | exact hS1, fr1⟩
def r_X7_kind (cell : Int32)  (S : sM) : Int32 × sM := if ((r_X7_isRefused (f_X7_isNoCell cell) (0 : Int32) S).1) = 0 then ((((r_X7_isRefused (f_X7_isNoCell cell) (0 : Int32) S).2).1) cell.toNatClampNeg, (r_X7_isRefused (f_X7_isNoCell cell) (0 : Int32) S).2) else (0, (r_X7_isRefused (f_X7_isNoCell cell) (0 : Int32) S).2)
set_option maxRecDepth 4000 in
theorem mt_X7_kind (hp : qq_H) (A : qA) (S : sM) (hS : ms_M A S hp) (cell : Int32)      : qq_Mt mX7_kind [.ref 84, .int cell] hp 0 0 (fun v hp' => v = some (.int ((r_X7_kind cell S).1)) ∧ ms_M A ((r_X7_kind cell S).2) hp' ∧ fr A hp hp') (fun _ _ => False) := by
  refine qq_met pn_X7 (Nat.le_of_ble_eq_true rfl) (Nat.le_of_ble_eq_true rfl) kc_X7_kind ?_
  show qq_Go _ hp 0 0 0 [(0, .ref 84), (1, .int cell)] [] _ _
  refine qq_aload_n dX7_kind_0 rfl 0 rfl ?_
  refine qq_iload_n dX7_kind_1 rfl 1 rfl ?_
  refine qq_less (bc' := 0 + 0) (bs' := 0 + 0) (by omega) (by omega) ?_
  refine qq_callS (bc := 0) (bs := 0) (mc := 0) (ms := 0) (as := [.int cell]) (rest := [.ref 84]) dX7_kind_2 (mt_X7_isNoCell hp cell) rfl kl_X7_123 ks_X7_isNoCell ki_X7 kc_X7_isNoCell kd_X7_isNoCell rfl (by decide) (by decide) (Nat.le_of_ble_eq_true rfl) (fun v hp' hv _ _ => ?_) (fun E hp' zx _ _ => zx.elim)
  obtain ⟨rfl, rfl⟩ := hv
  show qq_Go _ hp (0) (0) 5 [(0, .ref 84), (1, .int cell)] [.int (f_X7_isNoCell cell), .ref 84] _ _
  refine qq_iconst (v := 0) dX7_kind_5 (by decide) ?_
  refine qq_less (bc' := 0 + 0) (bs' := 0 + 0) (by omega) (by omega) ?_
  refine qq_callV (bc := 0) (bs := 0) (mc := 0) (ms := 0) (o := 84) (ci := 4) (N := 11) (T := TX7) (as := [.int (f_X7_isNoCell cell), .int 0]) (rest := []) dX7_kind_6 hS.2.2.1 (by decide) rfl (mt_X7_isRefused hp A S hS (f_X7_isNoCell cell) (0 : Int32) ) rfl kl_X7_126 kn_X7_isRefused ke_X7_isRefused ki_X7 kc_X7_isRefused kd_X7_isRefused rfl (by decide) (by decide) (Nat.le_of_ble_eq_true rfl) (fun v hp1 hv _ _ => ?_) (fun E hp' zx _ _ => zx.elim)
  obtain ⟨rfl, hS1, fr1⟩ := hv
  show qq_Go _ hp1 (0) (0) 9 [(0, .ref 84), (1, .int cell)] [.int ((r_X7_isRefused (f_X7_isNoCell cell) (0 : Int32) S).1)] _ _
  refine qq_if_eq (tgt := 16) dX7_kind_9 (by decide) (fun zc1 => ?_) (fun zc1 => ?_)
  · have zv1 := qx_cell (qx_ref zc1)
    refine qq_aload_n dX7_kind_16 rfl 0 rfl ?_
    refine mx_get hS1 dX7_kind_17 4 (by decide) rfl kl_X7_28 ?_
    refine qq_iload_n dX7_kind_20 rfl 1 rfl ?_
    refine qq_iald dX7_kind_21 hS1.2.2.2.1 zv1 ?_
    have ze : r_X7_kind cell S = ((((r_X7_isRefused (f_X7_isNoCell cell) (0 : Int32) S).2).1) cell.toNatClampNeg, (r_X7_isRefused (f_X7_isNoCell cell) (0 : Int32) S).2) := by
      rw [r_X7_kind, if_pos zc1]
    exact qq_iret dX7_kind_22 rfl rfl ⟨by rw [ze], by rw [ze]; first | exact ms_pr hS1 | exact hS1, fr1⟩
  · refine qq_iconst (v := 0) dX7_kind_12 (by decide) ?_
    refine qq_goto (tgt := 22) dX7_kind_13 (by decide) ?_
    have ze : r_X7_kind cell S = (0, (r_X7_isRefused (f_X7_isNoCell cell) (0 : Int32) S).2) := by
      rw [r_X7_kind, if_neg zc1]
    exact qq_iret dX7_kind_22 rfl rfl ⟨by rw [ze], by rw [ze]; first | exact ms_pr hS1 | exact hS1, fr1⟩
def r_X7_of (cell : Int32)  (S : sM) : Int32 × sM := if ((r_X7_isRefused (f_X7_isNoCell cell) (0 : Int32) S).1) = 0 then if ((((r_X7_isRefused (f_X7_isNoCell cell) (0 : Int32) S).2).1) cell.toNatClampNeg) = 1 then if ((((r_X7_isRefused (f_X7_isNoCell cell) (0 : Int32) S).2).2.2.1) cell.toNatClampNeg) = 0 then (1000, (r_X7_isRefused (f_X7_isNoCell cell) (0 : Int32) S).2) else ((-1000), (r_X7_isRefused (f_X7_isNoCell cell) (0 : Int32) S).2) else ((((r_X7_isRefused (f_X7_isNoCell cell) (0 : Int32) S).2).2.1) cell.toNatClampNeg, (r_X7_isRefused (f_X7_isNoCell cell) (0 : Int32) S).2) else (0, (r_X7_isRefused (f_X7_isNoCell cell) (0 : Int32) S).2)
set_option maxRecDepth 4000 in
theorem mt_X7_of (hp : qq_H) (A : qA) (S : sM) (hS : ms_M A S hp) (cell : Int32)      : qq_Mt mX7_of [.ref 84, .int cell] hp 0 0 (fun v hp' => v = some (.int ((r_X7_of cell S).1)) ∧ ms_M A ((r_X7_of cell S).2) hp' ∧ fr A hp hp') (fun _ _ => False) := by
  refine qq_met pn_X7 (Nat.le_of_ble_eq_true rfl) (Nat.le_of_ble_eq_true rfl) kc_X7_of ?_
  show qq_Go _ hp 0 0 0 [(0, .ref 84), (1, .int cell)] [] _ _
  refine qq_aload_n dX7_of_0 rfl 0 rfl ?_
  refine qq_iload_n dX7_of_1 rfl 1 rfl ?_
  refine qq_less (bc' := 0 + 0) (bs' := 0 + 0) (by omega) (by omega) ?_
  refine qq_callS (bc := 0) (bs := 0) (mc := 0) (ms := 0) (as := [.int cell]) (rest := [.ref 84]) dX7_of_2 (mt_X7_isNoCell hp cell) rfl kl_X7_123 ks_X7_isNoCell ki_X7 kc_X7_isNoCell kd_X7_isNoCell rfl (by decide) (by decide) (Nat.le_of_ble_eq_true rfl) (fun v hp' hv _ _ => ?_) (fun E hp' zx _ _ => zx.elim)
  obtain ⟨rfl, rfl⟩ := hv
  show qq_Go _ hp (0) (0) 5 [(0, .ref 84), (1, .int cell)] [.int (f_X7_isNoCell cell), .ref 84] _ _
  refine qq_iconst (v := 0) dX7_of_5 (by decide) ?_
  refine qq_less (bc' := 0 + 0) (bs' := 0 + 0) (by omega) (by omega) ?_
  refine qq_callV (bc := 0) (bs := 0) (mc := 0) (ms := 0) (o := 84) (ci := 4) (N := 11) (T := TX7) (as := [.int (f_X7_isNoCell cell), .int 0]) (rest := []) dX7_of_6 hS.2.2.1 (by decide) rfl (mt_X7_isRefused hp A S hS (f_X7_isNoCell cell) (0 : Int32) ) rfl kl_X7_126 kn_X7_isRefused ke_X7_isRefused ki_X7 kc_X7_isRefused kd_X7_isRefused rfl (by decide) (by decide) (Nat.le_of_ble_eq_true rfl) (fun v hp1 hv _ _ => ?_) (fun E hp' zx _ _ => zx.elim)
  obtain ⟨rfl, hS1, fr1⟩ := hv
  show qq_Go _ hp1 (0) (0) 9 [(0, .ref 84), (1, .int cell)] [.int ((r_X7_isRefused (f_X7_isNoCell cell) (0 : Int32) S).1)] _ _
  refine qq_if_eq (tgt := 14) dX7_of_9 (by decide) (fun zc1 => ?_) (fun zc1 => ?_)
  · have zv1 := qx_cell (qx_ref zc1)
    refine qq_aload_n dX7_of_14 rfl 0 rfl ?_
    refine mx_get hS1 dX7_of_15 4 (by decide) rfl kl_X7_28 ?_
    refine qq_iload_n dX7_of_18 rfl 1 rfl ?_
    refine qq_iald dX7_of_19 hS1.2.2.2.1 zv1 ?_
    refine qq_iconst (v := 1) dX7_of_20 (by decide) ?_
    refine qq_icmp_eq (tgt := 33) dX7_of_21 (by decide) (fun zc2 => ?_) (fun zc2 => ?_)
    · refine qq_aload_n dX7_of_33 rfl 0 rfl ?_
      refine mx_get hS1 dX7_of_34 6 (by decide) rfl kl_X7_34 ?_
      refine qq_iload_n dX7_of_37 rfl 1 rfl ?_
      refine qq_zald dX7_of_38 hS1.2.2.2.2.2.1 zv1 ?_
      refine qq_if_eq (tgt := 48) dX7_of_39 (by decide) (fun zc3 => ?_) (fun zc3 => ?_)
      · refine qq_sipush (v := 1000) dX7_of_48 (by decide) ?_
        have ze : r_X7_of cell S = (1000, (r_X7_isRefused (f_X7_isNoCell cell) (0 : Int32) S).2) := by
          rw [r_X7_of, if_pos zc1, if_pos zc2, if_pos zc3]
        exact qq_iret dX7_of_51 rfl rfl ⟨by rw [ze], by rw [ze]; first | exact ms_pr hS1 | exact hS1, fr1⟩
      · refine qq_sipush (v := (-1000)) dX7_of_42 (by decide) ?_
        refine qq_goto (tgt := 51) dX7_of_45 (by decide) ?_
        have ze : r_X7_of cell S = ((-1000), (r_X7_isRefused (f_X7_isNoCell cell) (0 : Int32) S).2) := by
          rw [r_X7_of, if_pos zc1, if_pos zc2, if_neg zc3]
        exact qq_iret dX7_of_51 rfl rfl ⟨by rw [ze], by rw [ze]; first | exact ms_pr hS1 | exact hS1, fr1⟩
    · refine qq_aload_n dX7_of_24 rfl 0 rfl ?_
      refine mx_get hS1 dX7_of_25 5 (by decide) rfl kl_X7_31 ?_
      refine qq_iload_n dX7_of_28 rfl 1 rfl ?_
      refine qq_iald dX7_of_29 hS1.2.2.2.2.1 zv1 ?_
      refine qq_goto (tgt := 51) dX7_of_30 (by decide) ?_
      have ze : r_X7_of cell S = ((((r_X7_isRefused (f_X7_isNoCell cell) (0 : Int32) S).2).2.1) cell.toNatClampNeg, (r_X7_isRefused (f_X7_isNoCell cell) (0 : Int32) S).2) := by
        rw [r_X7_of, if_pos zc1, if_neg zc2]
      exact qq_iret dX7_of_51 rfl rfl ⟨by rw [ze], by rw [ze]; first | exact ms_pr hS1 | exact hS1, fr1⟩
  · refine qq_iconst (v := 0) dX7_of_12 (by decide) ?_
    have ze : r_X7_of cell S = (0, (r_X7_isRefused (f_X7_isNoCell cell) (0 : Int32) S).2) := by
      rw [r_X7_of, if_neg zc1]
    exact qq_iret dX7_of_13 rfl rfl ⟨by rw [ze], by rw [ze]; first | exact ms_pr hS1 | exact hS1, fr1⟩
def r_X7_isZero (cell : Int32)  (S : sM) : Int32 × sM := if ((r_X7_isRefused (f_X7_isNoCell cell) (0 : Int32) S).1) = 0 then if (r_X7_isNought cell ((r_X7_isRefused (f_X7_isNoCell cell) (0 : Int32) S).2)) = 0 then (0, (r_X7_isRefused (f_X7_isNoCell cell) (0 : Int32) S).2) else (1, (r_X7_isRefused (f_X7_isNoCell cell) (0 : Int32) S).2) else (0, (r_X7_isRefused (f_X7_isNoCell cell) (0 : Int32) S).2)
theorem bz_X7_isZero (cell : Int32)  (S : sM) : (r_X7_isZero cell S).1 = 0 ∨ (r_X7_isZero cell S).1 = 1 := by
  unfold r_X7_isZero
  exact (qm_i01 (qm_i01 (Or.inl rfl) (Or.inr rfl)) (Or.inl rfl))
set_option maxRecDepth 4000 in
theorem mt_X7_isZero (hp : qq_H) (A : qA) (S : sM) (hS : ms_M A S hp) (cell : Int32)      : qq_Mt mX7_isZero [.ref 84, .int cell] hp 0 0 (fun v hp' => v = some (.int ((r_X7_isZero cell S).1)) ∧ ms_M A ((r_X7_isZero cell S).2) hp' ∧ fr A hp hp') (fun _ _ => False) := by
  refine qq_met pn_X7 (Nat.le_of_ble_eq_true rfl) (Nat.le_of_ble_eq_true rfl) kc_X7_isZero ?_
  show qq_Go _ hp 0 0 0 [(0, .ref 84), (1, .int cell)] [] _ _
  refine qq_aload_n dX7_isZero_0 rfl 0 rfl ?_
  refine qq_iload_n dX7_isZero_1 rfl 1 rfl ?_
  refine qq_less (bc' := 0 + 0) (bs' := 0 + 0) (by omega) (by omega) ?_
  refine qq_callS (bc := 0) (bs := 0) (mc := 0) (ms := 0) (as := [.int cell]) (rest := [.ref 84]) dX7_isZero_2 (mt_X7_isNoCell hp cell) rfl kl_X7_123 ks_X7_isNoCell ki_X7 kc_X7_isNoCell kd_X7_isNoCell rfl (by decide) (by decide) (Nat.le_of_ble_eq_true rfl) (fun v hp' hv _ _ => ?_) (fun E hp' zx _ _ => zx.elim)
  obtain ⟨rfl, rfl⟩ := hv
  show qq_Go _ hp (0) (0) 5 [(0, .ref 84), (1, .int cell)] [.int (f_X7_isNoCell cell), .ref 84] _ _
  refine qq_iconst (v := 0) dX7_isZero_5 (by decide) ?_
  refine qq_less (bc' := 0 + 0) (bs' := 0 + 0) (by omega) (by omega) ?_
  refine qq_callV (bc := 0) (bs := 0) (mc := 0) (ms := 0) (o := 84) (ci := 4) (N := 11) (T := TX7) (as := [.int (f_X7_isNoCell cell), .int 0]) (rest := []) dX7_isZero_6 hS.2.2.1 (by decide) rfl (mt_X7_isRefused hp A S hS (f_X7_isNoCell cell) (0 : Int32) ) rfl kl_X7_126 kn_X7_isRefused ke_X7_isRefused ki_X7 kc_X7_isRefused kd_X7_isRefused rfl (by decide) (by decide) (Nat.le_of_ble_eq_true rfl) (fun v hp1 hv _ _ => ?_) (fun E hp' zx _ _ => zx.elim)
  obtain ⟨rfl, hS1, fr1⟩ := hv
  show qq_Go _ hp1 (0) (0) 9 [(0, .ref 84), (1, .int cell)] [.int ((r_X7_isRefused (f_X7_isNoCell cell) (0 : Int32) S).1)] _ _
  refine qq_if_ne (tgt := 24) dX7_isZero_9 (by decide) (fun zc1 => ?_) (fun zc1 => ?_)
  · refine qq_iconst (v := 0) dX7_isZero_24 (by decide) ?_
    have ze : r_X7_isZero cell S = (0, (r_X7_isRefused (f_X7_isNoCell cell) (0 : Int32) S).2) := by
      rw [r_X7_isZero, if_neg zc1]
    exact qq_iret dX7_isZero_25 rfl rfl ⟨by rw [ze], by rw [ze]; first | exact ms_pr hS1 | exact hS1, fr1⟩
  · have zv1 := qx_cell (qx_ref zc1)
    refine qq_aload_n dX7_isZero_12 rfl 0 rfl ?_
    refine qq_iload_n dX7_isZero_13 rfl 1 rfl ?_
    refine qq_less (bc' := 0 + 0) (bs' := 0 + 0) (by omega) (by omega) ?_
    refine qq_callV (bc := 0) (bs := 0) (mc := 0) (ms := 0) (o := 84) (ci := 4) (N := 11) (T := TX7) (as := [.int cell]) (rest := []) dX7_isZero_14 hS1.2.2.1 (by decide) rfl (mt_X7_isNought hp1 A ((r_X7_isRefused (f_X7_isNoCell cell) (0 : Int32) S).2) hS1 cell zv1) rfl kl_X7_109 kn_X7_isNought ke_X7_isNought ki_X7 kc_X7_isNought kd_X7_isNought rfl (by decide) (by decide) (Nat.le_of_ble_eq_true rfl) (fun v hp' hv _ _ => ?_) (fun E hp' zx _ _ => zx.elim)
    obtain ⟨rfl, rfl⟩ := hv
    show qq_Go _ hp1 (0) (0) 17 [(0, .ref 84), (1, .int cell)] [.int (r_X7_isNought cell ((r_X7_isRefused (f_X7_isNoCell cell) (0 : Int32) S).2))] _ _
    refine qq_if_eq (tgt := 24) dX7_isZero_17 (by decide) (fun zc2 => ?_) (fun zc2 => ?_)
    · refine qq_iconst (v := 0) dX7_isZero_24 (by decide) ?_
      have ze : r_X7_isZero cell S = (0, (r_X7_isRefused (f_X7_isNoCell cell) (0 : Int32) S).2) := by
        rw [r_X7_isZero, if_pos zc1, if_pos zc2]
      exact qq_iret dX7_isZero_25 rfl rfl ⟨by rw [ze], by rw [ze]; first | exact ms_pr hS1 | exact hS1, fr1⟩
    · refine qq_iconst (v := 1) dX7_isZero_20 (by decide) ?_
      refine qq_goto (tgt := 25) dX7_isZero_21 (by decide) ?_
      have ze : r_X7_isZero cell S = (1, (r_X7_isRefused (f_X7_isNoCell cell) (0 : Int32) S).2) := by
        rw [r_X7_isZero, if_pos zc1, if_neg zc2]
      exact qq_iret dX7_isZero_25 rfl rfl ⟨by rw [ze], by rw [ze]; first | exact ms_pr hS1 | exact hS1, fr1⟩
def r_X7_isEndless (cell : Int32)  (S : sM) : Int32 × sM := if ((r_X7_isRefused (f_X7_isNoCell cell) (0 : Int32) S).1) = 0 then if ((((r_X7_isRefused (f_X7_isNoCell cell) (0 : Int32) S).2).1) cell.toNatClampNeg) = 1 then (1, (r_X7_isRefused (f_X7_isNoCell cell) (0 : Int32) S).2) else (0, (r_X7_isRefused (f_X7_isNoCell cell) (0 : Int32) S).2) else (0, (r_X7_isRefused (f_X7_isNoCell cell) (0 : Int32) S).2)
theorem bz_X7_isEndless (cell : Int32)  (S : sM) : (r_X7_isEndless cell S).1 = 0 ∨ (r_X7_isEndless cell S).1 = 1 := by
  unfold r_X7_isEndless
  exact (qm_i01 (qm_i01 (Or.inr rfl) (Or.inl rfl)) (Or.inl rfl))
set_option maxRecDepth 4000 in
theorem mt_X7_isEndless (hp : qq_H) (A : qA) (S : sM) (hS : ms_M A S hp) (cell : Int32)      : qq_Mt mX7_isEndless [.ref 84, .int cell] hp 0 0 (fun v hp' => v = some (.int ((r_X7_isEndless cell S).1)) ∧ ms_M A ((r_X7_isEndless cell S).2) hp' ∧ fr A hp hp') (fun _ _ => False) := by
  refine qq_met pn_X7 (Nat.le_of_ble_eq_true rfl) (Nat.le_of_ble_eq_true rfl) kc_X7_isEndless ?_
  show qq_Go _ hp 0 0 0 [(0, .ref 84), (1, .int cell)] [] _ _
  refine qq_aload_n dX7_isEndless_0 rfl 0 rfl ?_
  refine qq_iload_n dX7_isEndless_1 rfl 1 rfl ?_
  refine qq_less (bc' := 0 + 0) (bs' := 0 + 0) (by omega) (by omega) ?_
  refine qq_callS (bc := 0) (bs := 0) (mc := 0) (ms := 0) (as := [.int cell]) (rest := [.ref 84]) dX7_isEndless_2 (mt_X7_isNoCell hp cell) rfl kl_X7_123 ks_X7_isNoCell ki_X7 kc_X7_isNoCell kd_X7_isNoCell rfl (by decide) (by decide) (Nat.le_of_ble_eq_true rfl) (fun v hp' hv _ _ => ?_) (fun E hp' zx _ _ => zx.elim)
  obtain ⟨rfl, rfl⟩ := hv
  show qq_Go _ hp (0) (0) 5 [(0, .ref 84), (1, .int cell)] [.int (f_X7_isNoCell cell), .ref 84] _ _
  refine qq_iconst (v := 0) dX7_isEndless_5 (by decide) ?_
  refine qq_less (bc' := 0 + 0) (bs' := 0 + 0) (by omega) (by omega) ?_
  refine qq_callV (bc := 0) (bs := 0) (mc := 0) (ms := 0) (o := 84) (ci := 4) (N := 11) (T := TX7) (as := [.int (f_X7_isNoCell cell), .int 0]) (rest := []) dX7_isEndless_6 hS.2.2.1 (by decide) rfl (mt_X7_isRefused hp A S hS (f_X7_isNoCell cell) (0 : Int32) ) rfl kl_X7_126 kn_X7_isRefused ke_X7_isRefused ki_X7 kc_X7_isRefused kd_X7_isRefused rfl (by decide) (by decide) (Nat.le_of_ble_eq_true rfl) (fun v hp1 hv _ _ => ?_) (fun E hp' zx _ _ => zx.elim)
  obtain ⟨rfl, hS1, fr1⟩ := hv
  show qq_Go _ hp1 (0) (0) 9 [(0, .ref 84), (1, .int cell)] [.int ((r_X7_isRefused (f_X7_isNoCell cell) (0 : Int32) S).1)] _ _
  refine qq_if_ne (tgt := 26) dX7_isEndless_9 (by decide) (fun zc1 => ?_) (fun zc1 => ?_)
  · refine qq_iconst (v := 0) dX7_isEndless_26 (by decide) ?_
    have ze : r_X7_isEndless cell S = (0, (r_X7_isRefused (f_X7_isNoCell cell) (0 : Int32) S).2) := by
      rw [r_X7_isEndless, if_neg zc1]
    exact qq_iret dX7_isEndless_27 rfl rfl ⟨by rw [ze], by rw [ze]; first | exact ms_pr hS1 | exact hS1, fr1⟩
  · have zv1 := qx_cell (qx_ref zc1)
    refine qq_aload_n dX7_isEndless_12 rfl 0 rfl ?_
    refine mx_get hS1 dX7_isEndless_13 4 (by decide) rfl kl_X7_28 ?_
    refine qq_iload_n dX7_isEndless_16 rfl 1 rfl ?_
    refine qq_iald dX7_isEndless_17 hS1.2.2.2.1 zv1 ?_
    refine qq_iconst (v := 1) dX7_isEndless_18 (by decide) ?_
    refine qq_icmp_ne (tgt := 26) dX7_isEndless_19 (by decide) (fun zc2 => ?_) (fun zc2 => ?_)
    · refine qq_iconst (v := 0) dX7_isEndless_26 (by decide) ?_
      have ze : r_X7_isEndless cell S = (0, (r_X7_isRefused (f_X7_isNoCell cell) (0 : Int32) S).2) := by
        rw [r_X7_isEndless, if_pos zc1, if_neg zc2]
      exact qq_iret dX7_isEndless_27 rfl rfl ⟨by rw [ze], by rw [ze]; first | exact ms_pr hS1 | exact hS1, fr1⟩
    · refine qq_iconst (v := 1) dX7_isEndless_22 (by decide) ?_
      refine qq_goto (tgt := 27) dX7_isEndless_23 (by decide) ?_
      have ze : r_X7_isEndless cell S = (1, (r_X7_isRefused (f_X7_isNoCell cell) (0 : Int32) S).2) := by
        rw [r_X7_isEndless, if_pos zc1, if_pos zc2]
      exact qq_iret dX7_isEndless_27 rfl rfl ⟨by rw [ze], by rw [ze]; first | exact ms_pr hS1 | exact hS1, fr1⟩
def r_X7_isOf (how : Int32) (q9 : Int32)  (S : sM) : Int32 := f_X7_isIn q9 (t_le how.toNatClampNeg) (t_gr how.toNatClampNeg)
theorem bz_X7_isOf (how : Int32) (q9 : Int32)  (S : sM) : r_X7_isOf how q9 S = 0 ∨ r_X7_isOf how q9 S = 1 := by
  unfold r_X7_isOf
  exact (bz_X7_isIn q9 (t_le how.toNatClampNeg) (t_gr how.toNatClampNeg))
set_option maxRecDepth 4000 in
theorem mt_X7_isOf (hp : qq_H) (A : qA) (S : sM) (hS : ms_M A S hp) (how : Int32) (q9 : Int32)     (zw : vp_in how 4) : qq_Mt mX7_isOf [.int how, .int q9] hp 0 0 (fun v hp' => v = some (.int (r_X7_isOf how q9 S)) ∧ hp = hp') (fun _ _ => False) := by
  refine qq_met pn_X7 (Nat.le_of_ble_eq_true rfl) (Nat.le_of_ble_eq_true rfl) kc_X7_isOf ?_
  show qq_Go _ hp 0 0 0 [(0, .int how), (1, .int q9)] [] _ _
  refine qq_iload_n dX7_isOf_0 rfl 1 rfl ?_
  refine qq_gets (C := "QuarterpowersModel") (nm := "LEAST") (d := "[I") (v := .ref 4) dX7_isOf_1 (by decide +kernel) kl_X7_148 ?_
  refine qq_iload_n dX7_isOf_4 rfl 0 rfl ?_
  refine qq_iald (n := 4) (f := t_le) dX7_isOf_5 (hS.1.2 4 (by decide) (by decide)) zw ?_
  show qq_Go _ hp (0) (0) 6 [(0, .int how), (1, .int q9)] [.int (t_le how.toNatClampNeg), .int q9] _ _
  refine qq_gets (C := "QuarterpowersModel") (nm := "GREATEST") (d := "[I") (v := .ref 5) dX7_isOf_6 (by decide +kernel) kl_X7_151 ?_
  refine qq_iload_n dX7_isOf_9 rfl 0 rfl ?_
  refine qq_iald (n := 4) (f := t_gr) dX7_isOf_10 (hS.1.2 5 (by decide) (by decide)) zw ?_
  show qq_Go _ hp (0) (0) 11 [(0, .int how), (1, .int q9)] [.int (t_gr how.toNatClampNeg), .int (t_le how.toNatClampNeg), .int q9] _ _
  refine qq_less (bc' := 0 + 0) (bs' := 0 + 0) (by omega) (by omega) ?_
  refine qq_callS (bc := 0) (bs := 0) (mc := 0) (ms := 0) (as := [.int q9, .int (t_le how.toNatClampNeg), .int (t_gr how.toNatClampNeg)]) (rest := []) dX7_isOf_11 (mt_X7_isIn hp q9 (t_le how.toNatClampNeg) (t_gr how.toNatClampNeg)) rfl kl_X7_113 ks_X7_isIn ki_X7 kc_X7_isIn kd_X7_isIn rfl (by decide) (by decide) (Nat.le_of_ble_eq_true rfl) (fun v hp' hv _ _ => ?_) (fun E hp' zx _ _ => zx.elim)
  obtain ⟨rfl, rfl⟩ := hv
  show qq_Go _ hp (0) (0) 14 [(0, .int how), (1, .int q9)] [.int (f_X7_isIn q9 (t_le how.toNatClampNeg) (t_gr how.toNatClampNeg))] _ _
  have ze : r_X7_isOf how q9 S = f_X7_isIn q9 (t_le how.toNatClampNeg) (t_gr how.toNatClampNeg) := by
    rw [r_X7_isOf]
  exact qq_iret dX7_isOf_14 rfl (qq_nz (bz_X7_isIn q9 (t_le how.toNatClampNeg) (t_gr how.toNatClampNeg))) ⟨by rw [ze], rfl⟩
def r_X7_isLow (cell : Int32)  (S : sM) : Int32 × sM := if (f_X7_isNoCell cell) = 0 then if (r_X7_isUntold cell S) = 0 then if (r_X7_isNought cell S) = 0 then ((r_X7_isRefused (f_X7_isNoCell cell) (0 : Int32) S).1, (r_X7_isRefused (f_X7_isNoCell cell) (0 : Int32) S).2) else ((r_X7_isRefused (f_X7_isNoCell cell) (1 : Int32) S).1, (r_X7_isRefused (f_X7_isNoCell cell) (1 : Int32) S).2) else ((r_X7_isRefused (f_X7_isNoCell cell) (1 : Int32) S).1, (r_X7_isRefused (f_X7_isNoCell cell) (1 : Int32) S).2) else if (r_X7_isUntold (0 : Int32) S) = 0 then if (r_X7_isNought (0 : Int32) S) = 0 then ((r_X7_isRefused (f_X7_isNoCell cell) (0 : Int32) S).1, (r_X7_isRefused (f_X7_isNoCell cell) (0 : Int32) S).2) else ((r_X7_isRefused (f_X7_isNoCell cell) (1 : Int32) S).1, (r_X7_isRefused (f_X7_isNoCell cell) (1 : Int32) S).2) else ((r_X7_isRefused (f_X7_isNoCell cell) (1 : Int32) S).1, (r_X7_isRefused (f_X7_isNoCell cell) (1 : Int32) S).2)
set_option maxRecDepth 4000 in
theorem mt_X7_isLow (hp : qq_H) (A : qA) (S : sM) (hS : ms_M A S hp) (cell : Int32)      : qq_Mt mX7_isLow [.ref 84, .int cell] hp 0 0 (fun v hp' => v = some (.int ((r_X7_isLow cell S).1)) ∧ ms_M A ((r_X7_isLow cell S).2) hp' ∧ fr A hp hp') (fun _ _ => False) := by
  refine qq_met pn_X7 (Nat.le_of_ble_eq_true rfl) (Nat.le_of_ble_eq_true rfl) kc_X7_isLow ?_
  show qq_Go _ hp 0 0 0 [(0, .ref 84), (1, .int cell)] [] _ _
  refine qq_iload_n dX7_isLow_0 rfl 1 rfl ?_
  refine qq_less (bc' := 0 + 0) (bs' := 0 + 0) (by omega) (by omega) ?_
  refine qq_callS (bc := 0) (bs := 0) (mc := 0) (ms := 0) (as := [.int cell]) (rest := []) dX7_isLow_1 (mt_X7_isNoCell hp cell) rfl kl_X7_123 ks_X7_isNoCell ki_X7 kc_X7_isNoCell kd_X7_isNoCell rfl (by decide) (by decide) (Nat.le_of_ble_eq_true rfl) (fun v hp' hv _ _ => ?_) (fun E hp' zx _ _ => zx.elim)
  obtain ⟨rfl, rfl⟩ := hv
  show qq_Go _ hp (0) (0) 4 [(0, .ref 84), (1, .int cell)] [.int (f_X7_isNoCell cell)] _ _
  refine qq_if_eq (tgt := 11) dX7_isLow_4 (by decide) (fun zc1 => ?_) (fun zc1 => ?_)
  · have zv1 := qx_cell zc1
    refine qq_iload_n dX7_isLow_11 rfl 1 rfl ?_
    refine qq_istore_n (loc' := [(0, .ref 84), (1, .int cell), (2, .int cell)]) dX7_isLow_12 rfl [1, 2, 0] (Nat.le_of_ble_eq_true rfl) rfl ?_
    refine qq_aload_n dX7_isLow_13 rfl 0 rfl ?_
    refine qq_iload_n dX7_isLow_14 rfl 1 rfl ?_
    refine qq_less (bc' := 0 + 0) (bs' := 0 + 0) (by omega) (by omega) ?_
    refine qq_callS (bc := 0) (bs := 0) (mc := 0) (ms := 0) (as := [.int cell]) (rest := [.ref 84]) dX7_isLow_15 (mt_X7_isNoCell hp cell) rfl kl_X7_123 ks_X7_isNoCell ki_X7 kc_X7_isNoCell kd_X7_isNoCell rfl (by decide) (by decide) (Nat.le_of_ble_eq_true rfl) (fun v hp' hv _ _ => ?_) (fun E hp' zx _ _ => zx.elim)
    obtain ⟨rfl, rfl⟩ := hv
    show qq_Go _ hp (0) (0) 18 [(0, .ref 84), (1, .int cell), (2, .int cell)] [.int (f_X7_isNoCell cell), .ref 84] _ _
    refine qq_aload_n dX7_isLow_18 rfl 0 rfl ?_
    refine qq_iload_n dX7_isLow_19 rfl 2 rfl ?_
    refine qq_less (bc' := 0 + 0) (bs' := 0 + 0) (by omega) (by omega) ?_
    refine qq_callV (bc := 0) (bs := 0) (mc := 0) (ms := 0) (o := 84) (ci := 4) (N := 11) (T := TX7) (as := [.int cell]) (rest := [.int (f_X7_isNoCell cell), .ref 84]) dX7_isLow_20 hS.2.2.1 (by decide) rfl (mt_X7_isUntold hp A S hS cell zv1) rfl kl_X7_174 kn_X7_isUntold ke_X7_isUntold ki_X7 kc_X7_isUntold kd_X7_isUntold rfl (by decide) (by decide) (Nat.le_of_ble_eq_true rfl) (fun v hp' hv _ _ => ?_) (fun E hp' zx _ _ => zx.elim)
    obtain ⟨rfl, rfl⟩ := hv
    show qq_Go _ hp (0) (0) 23 [(0, .ref 84), (1, .int cell), (2, .int cell)] [.int (r_X7_isUntold cell S), .int (f_X7_isNoCell cell), .ref 84] _ _
    refine qq_if_ne (tgt := 34) dX7_isLow_23 (by decide) (fun zc2 => ?_) (fun zc2 => ?_)
    · refine qq_iconst (v := 1) dX7_isLow_34 (by decide) ?_
      refine qq_goto (tgt := 39) dX7_isLow_35 (by decide) ?_
      refine qq_less (bc' := 0 + 0) (bs' := 0 + 0) (by omega) (by omega) ?_
      refine qq_callV (bc := 0) (bs := 0) (mc := 0) (ms := 0) (o := 84) (ci := 4) (N := 11) (T := TX7) (as := [.int (f_X7_isNoCell cell), .int 1]) (rest := []) dX7_isLow_39 hS.2.2.1 (by decide) rfl (mt_X7_isRefused hp A S hS (f_X7_isNoCell cell) (1 : Int32) ) rfl kl_X7_126 kn_X7_isRefused ke_X7_isRefused ki_X7 kc_X7_isRefused kd_X7_isRefused rfl (by decide) (by decide) (Nat.le_of_ble_eq_true rfl) (fun v hp1 hv _ _ => ?_) (fun E hp' zx _ _ => zx.elim)
      obtain ⟨rfl, hS1, fr1⟩ := hv
      show qq_Go _ hp1 (0) (0) 42 [(0, .ref 84), (1, .int cell), (2, .int cell)] [.int ((r_X7_isRefused (f_X7_isNoCell cell) (1 : Int32) S).1)] _ _
      have ze : r_X7_isLow cell S = ((r_X7_isRefused (f_X7_isNoCell cell) (1 : Int32) S).1, (r_X7_isRefused (f_X7_isNoCell cell) (1 : Int32) S).2) := by
        rw [r_X7_isLow, if_pos zc1, if_neg zc2]
      exact qq_iret dX7_isLow_42 rfl (qq_nz bz_X7_isRefused) ⟨by rw [ze], by rw [ze]; first | exact ms_pr hS1 | exact hS1, fr1⟩
    · refine qq_aload_n dX7_isLow_26 rfl 0 rfl ?_
      refine qq_iload_n dX7_isLow_27 rfl 2 rfl ?_
      refine qq_less (bc' := 0 + 0) (bs' := 0 + 0) (by omega) (by omega) ?_
      refine qq_callV (bc := 0) (bs := 0) (mc := 0) (ms := 0) (o := 84) (ci := 4) (N := 11) (T := TX7) (as := [.int cell]) (rest := [.int (f_X7_isNoCell cell), .ref 84]) dX7_isLow_28 hS.2.2.1 (by decide) rfl (mt_X7_isNought hp A S hS cell zv1) rfl kl_X7_109 kn_X7_isNought ke_X7_isNought ki_X7 kc_X7_isNought kd_X7_isNought rfl (by decide) (by decide) (Nat.le_of_ble_eq_true rfl) (fun v hp' hv _ _ => ?_) (fun E hp' zx _ _ => zx.elim)
      obtain ⟨rfl, rfl⟩ := hv
      show qq_Go _ hp (0) (0) 31 [(0, .ref 84), (1, .int cell), (2, .int cell)] [.int (r_X7_isNought cell S), .int (f_X7_isNoCell cell), .ref 84] _ _
      refine qq_if_eq (tgt := 38) dX7_isLow_31 (by decide) (fun zc3 => ?_) (fun zc3 => ?_)
      · refine qq_iconst (v := 0) dX7_isLow_38 (by decide) ?_
        refine qq_less (bc' := 0 + 0) (bs' := 0 + 0) (by omega) (by omega) ?_
        refine qq_callV (bc := 0) (bs := 0) (mc := 0) (ms := 0) (o := 84) (ci := 4) (N := 11) (T := TX7) (as := [.int (f_X7_isNoCell cell), .int 0]) (rest := []) dX7_isLow_39 hS.2.2.1 (by decide) rfl (mt_X7_isRefused hp A S hS (f_X7_isNoCell cell) (0 : Int32) ) rfl kl_X7_126 kn_X7_isRefused ke_X7_isRefused ki_X7 kc_X7_isRefused kd_X7_isRefused rfl (by decide) (by decide) (Nat.le_of_ble_eq_true rfl) (fun v hp2 hv _ _ => ?_) (fun E hp' zx _ _ => zx.elim)
        obtain ⟨rfl, hS2, fr2⟩ := hv
        show qq_Go _ hp2 (0) (0) 42 [(0, .ref 84), (1, .int cell), (2, .int cell)] [.int ((r_X7_isRefused (f_X7_isNoCell cell) (0 : Int32) S).1)] _ _
        have ze : r_X7_isLow cell S = ((r_X7_isRefused (f_X7_isNoCell cell) (0 : Int32) S).1, (r_X7_isRefused (f_X7_isNoCell cell) (0 : Int32) S).2) := by
          rw [r_X7_isLow, if_pos zc1, if_pos zc2, if_pos zc3]
        exact qq_iret dX7_isLow_42 rfl (qq_nz bz_X7_isRefused) ⟨by rw [ze], by rw [ze]; first | exact ms_pr hS2 | exact hS2, fr2⟩
      · refine qq_iconst (v := 1) dX7_isLow_34 (by decide) ?_
        refine qq_goto (tgt := 39) dX7_isLow_35 (by decide) ?_
        refine qq_less (bc' := 0 + 0) (bs' := 0 + 0) (by omega) (by omega) ?_
        refine qq_callV (bc := 0) (bs := 0) (mc := 0) (ms := 0) (o := 84) (ci := 4) (N := 11) (T := TX7) (as := [.int (f_X7_isNoCell cell), .int 1]) (rest := []) dX7_isLow_39 hS.2.2.1 (by decide) rfl (mt_X7_isRefused hp A S hS (f_X7_isNoCell cell) (1 : Int32) ) rfl kl_X7_126 kn_X7_isRefused ke_X7_isRefused ki_X7 kc_X7_isRefused kd_X7_isRefused rfl (by decide) (by decide) (Nat.le_of_ble_eq_true rfl) (fun v hp3 hv _ _ => ?_) (fun E hp' zx _ _ => zx.elim)
        obtain ⟨rfl, hS3, fr3⟩ := hv
        show qq_Go _ hp3 (0) (0) 42 [(0, .ref 84), (1, .int cell), (2, .int cell)] [.int ((r_X7_isRefused (f_X7_isNoCell cell) (1 : Int32) S).1)] _ _
        have ze : r_X7_isLow cell S = ((r_X7_isRefused (f_X7_isNoCell cell) (1 : Int32) S).1, (r_X7_isRefused (f_X7_isNoCell cell) (1 : Int32) S).2) := by
          rw [r_X7_isLow, if_pos zc1, if_pos zc2, if_neg zc3]
        exact qq_iret dX7_isLow_42 rfl (qq_nz bz_X7_isRefused) ⟨by rw [ze], by rw [ze]; first | exact ms_pr hS3 | exact hS3, fr3⟩
  · refine qq_iconst (v := 0) dX7_isLow_7 (by decide) ?_
    refine qq_goto (tgt := 12) dX7_isLow_8 (by decide) ?_
    refine qq_istore_n (loc' := [(0, .ref 84), (1, .int cell), (2, .int 0)]) dX7_isLow_12 rfl [1, 2, 0] (Nat.le_of_ble_eq_true rfl) rfl ?_
    refine qq_aload_n dX7_isLow_13 rfl 0 rfl ?_
    refine qq_iload_n dX7_isLow_14 rfl 1 rfl ?_
    refine qq_less (bc' := 0 + 0) (bs' := 0 + 0) (by omega) (by omega) ?_
    refine qq_callS (bc := 0) (bs := 0) (mc := 0) (ms := 0) (as := [.int cell]) (rest := [.ref 84]) dX7_isLow_15 (mt_X7_isNoCell hp cell) rfl kl_X7_123 ks_X7_isNoCell ki_X7 kc_X7_isNoCell kd_X7_isNoCell rfl (by decide) (by decide) (Nat.le_of_ble_eq_true rfl) (fun v hp' hv _ _ => ?_) (fun E hp' zx _ _ => zx.elim)
    obtain ⟨rfl, rfl⟩ := hv
    show qq_Go _ hp (0) (0) 18 [(0, .ref 84), (1, .int cell), (2, .int 0)] [.int (f_X7_isNoCell cell), .ref 84] _ _
    refine qq_aload_n dX7_isLow_18 rfl 0 rfl ?_
    refine qq_iload_n dX7_isLow_19 rfl 2 rfl ?_
    refine qq_less (bc' := 0 + 0) (bs' := 0 + 0) (by omega) (by omega) ?_
    refine qq_callV (bc := 0) (bs := 0) (mc := 0) (ms := 0) (o := 84) (ci := 4) (N := 11) (T := TX7) (as := [.int 0]) (rest := [.int (f_X7_isNoCell cell), .ref 84]) dX7_isLow_20 hS.2.2.1 (by decide) rfl (mt_X7_isUntold hp A S hS (0 : Int32) (vp_d (by decide))) rfl kl_X7_174 kn_X7_isUntold ke_X7_isUntold ki_X7 kc_X7_isUntold kd_X7_isUntold rfl (by decide) (by decide) (Nat.le_of_ble_eq_true rfl) (fun v hp' hv _ _ => ?_) (fun E hp' zx _ _ => zx.elim)
    obtain ⟨rfl, rfl⟩ := hv
    show qq_Go _ hp (0) (0) 23 [(0, .ref 84), (1, .int cell), (2, .int 0)] [.int (r_X7_isUntold (0 : Int32) S), .int (f_X7_isNoCell cell), .ref 84] _ _
    refine qq_if_ne (tgt := 34) dX7_isLow_23 (by decide) (fun zc4 => ?_) (fun zc4 => ?_)
    · refine qq_iconst (v := 1) dX7_isLow_34 (by decide) ?_
      refine qq_goto (tgt := 39) dX7_isLow_35 (by decide) ?_
      refine qq_less (bc' := 0 + 0) (bs' := 0 + 0) (by omega) (by omega) ?_
      refine qq_callV (bc := 0) (bs := 0) (mc := 0) (ms := 0) (o := 84) (ci := 4) (N := 11) (T := TX7) (as := [.int (f_X7_isNoCell cell), .int 1]) (rest := []) dX7_isLow_39 hS.2.2.1 (by decide) rfl (mt_X7_isRefused hp A S hS (f_X7_isNoCell cell) (1 : Int32) ) rfl kl_X7_126 kn_X7_isRefused ke_X7_isRefused ki_X7 kc_X7_isRefused kd_X7_isRefused rfl (by decide) (by decide) (Nat.le_of_ble_eq_true rfl) (fun v hp4 hv _ _ => ?_) (fun E hp' zx _ _ => zx.elim)
      obtain ⟨rfl, hS4, fr4⟩ := hv
      show qq_Go _ hp4 (0) (0) 42 [(0, .ref 84), (1, .int cell), (2, .int 0)] [.int ((r_X7_isRefused (f_X7_isNoCell cell) (1 : Int32) S).1)] _ _
      have ze : r_X7_isLow cell S = ((r_X7_isRefused (f_X7_isNoCell cell) (1 : Int32) S).1, (r_X7_isRefused (f_X7_isNoCell cell) (1 : Int32) S).2) := by
        rw [r_X7_isLow, if_neg zc1, if_neg zc4]
      exact qq_iret dX7_isLow_42 rfl (qq_nz bz_X7_isRefused) ⟨by rw [ze], by rw [ze]; first | exact ms_pr hS4 | exact hS4, fr4⟩
    · refine qq_aload_n dX7_isLow_26 rfl 0 rfl ?_
      refine qq_iload_n dX7_isLow_27 rfl 2 rfl ?_
      refine qq_less (bc' := 0 + 0) (bs' := 0 + 0) (by omega) (by omega) ?_
      refine qq_callV (bc := 0) (bs := 0) (mc := 0) (ms := 0) (o := 84) (ci := 4) (N := 11) (T := TX7) (as := [.int 0]) (rest := [.int (f_X7_isNoCell cell), .ref 84]) dX7_isLow_28 hS.2.2.1 (by decide) rfl (mt_X7_isNought hp A S hS (0 : Int32) (vp_d (by decide))) rfl kl_X7_109 kn_X7_isNought ke_X7_isNought ki_X7 kc_X7_isNought kd_X7_isNought rfl (by decide) (by decide) (Nat.le_of_ble_eq_true rfl) (fun v hp' hv _ _ => ?_) (fun E hp' zx _ _ => zx.elim)
      obtain ⟨rfl, rfl⟩ := hv
      show qq_Go _ hp (0) (0) 31 [(0, .ref 84), (1, .int cell), (2, .int 0)] [.int (r_X7_isNought (0 : Int32) S), .int (f_X7_isNoCell cell), .ref 84] _ _
      refine qq_if_eq (tgt := 38) dX7_isLow_31 (by decide) (fun zc5 => ?_) (fun zc5 => ?_)
      · refine qq_iconst (v := 0) dX7_isLow_38 (by decide) ?_
        refine qq_less (bc' := 0 + 0) (bs' := 0 + 0) (by omega) (by omega) ?_
        refine qq_callV (bc := 0) (bs := 0) (mc := 0) (ms := 0) (o := 84) (ci := 4) (N := 11) (T := TX7) (as := [.int (f_X7_isNoCell cell), .int 0]) (rest := []) dX7_isLow_39 hS.2.2.1 (by decide) rfl (mt_X7_isRefused hp A S hS (f_X7_isNoCell cell) (0 : Int32) ) rfl kl_X7_126 kn_X7_isRefused ke_X7_isRefused ki_X7 kc_X7_isRefused kd_X7_isRefused rfl (by decide) (by decide) (Nat.le_of_ble_eq_true rfl) (fun v hp5 hv _ _ => ?_) (fun E hp' zx _ _ => zx.elim)
        obtain ⟨rfl, hS5, fr5⟩ := hv
        show qq_Go _ hp5 (0) (0) 42 [(0, .ref 84), (1, .int cell), (2, .int 0)] [.int ((r_X7_isRefused (f_X7_isNoCell cell) (0 : Int32) S).1)] _ _
        have ze : r_X7_isLow cell S = ((r_X7_isRefused (f_X7_isNoCell cell) (0 : Int32) S).1, (r_X7_isRefused (f_X7_isNoCell cell) (0 : Int32) S).2) := by
          rw [r_X7_isLow, if_neg zc1, if_pos zc4, if_pos zc5]
        exact qq_iret dX7_isLow_42 rfl (qq_nz bz_X7_isRefused) ⟨by rw [ze], by rw [ze]; first | exact ms_pr hS5 | exact hS5, fr5⟩
      · refine qq_iconst (v := 1) dX7_isLow_34 (by decide) ?_
        refine qq_goto (tgt := 39) dX7_isLow_35 (by decide) ?_
        refine qq_less (bc' := 0 + 0) (bs' := 0 + 0) (by omega) (by omega) ?_
        refine qq_callV (bc := 0) (bs := 0) (mc := 0) (ms := 0) (o := 84) (ci := 4) (N := 11) (T := TX7) (as := [.int (f_X7_isNoCell cell), .int 1]) (rest := []) dX7_isLow_39 hS.2.2.1 (by decide) rfl (mt_X7_isRefused hp A S hS (f_X7_isNoCell cell) (1 : Int32) ) rfl kl_X7_126 kn_X7_isRefused ke_X7_isRefused ki_X7 kc_X7_isRefused kd_X7_isRefused rfl (by decide) (by decide) (Nat.le_of_ble_eq_true rfl) (fun v hp6 hv _ _ => ?_) (fun E hp' zx _ _ => zx.elim)
        obtain ⟨rfl, hS6, fr6⟩ := hv
        show qq_Go _ hp6 (0) (0) 42 [(0, .ref 84), (1, .int cell), (2, .int 0)] [.int ((r_X7_isRefused (f_X7_isNoCell cell) (1 : Int32) S).1)] _ _
        have ze : r_X7_isLow cell S = ((r_X7_isRefused (f_X7_isNoCell cell) (1 : Int32) S).1, (r_X7_isRefused (f_X7_isNoCell cell) (1 : Int32) S).2) := by
          rw [r_X7_isLow, if_neg zc1, if_pos zc4, if_neg zc5]
        exact qq_iret dX7_isLow_42 rfl (qq_nz bz_X7_isRefused) ⟨by rw [ze], by rw [ze]; first | exact ms_pr hS6 | exact hS6, fr6⟩
def r_X7_isUnkept (cell : Int32)  (S : sM) : Int32 × sM := if (f_X7_isNoCell cell) = 0 then if (S.1 cell.toNatClampNeg) ≤ 1 then ((r_X7_isRefused (f_X7_isNoCell cell) (0 : Int32) S).1, (r_X7_isRefused (f_X7_isNoCell cell) (0 : Int32) S).2) else ((r_X7_isRefused (f_X7_isNoCell cell) (1 : Int32) S).1, (r_X7_isRefused (f_X7_isNoCell cell) (1 : Int32) S).2) else if (S.1 (0 : Int32).toNatClampNeg) ≤ 1 then ((r_X7_isRefused (f_X7_isNoCell cell) (0 : Int32) S).1, (r_X7_isRefused (f_X7_isNoCell cell) (0 : Int32) S).2) else ((r_X7_isRefused (f_X7_isNoCell cell) (1 : Int32) S).1, (r_X7_isRefused (f_X7_isNoCell cell) (1 : Int32) S).2)
set_option maxRecDepth 4000 in
theorem mt_X7_isUnkept (hp : qq_H) (A : qA) (S : sM) (hS : ms_M A S hp) (cell : Int32)      : qq_Mt mX7_isUnkept [.ref 84, .int cell] hp 0 0 (fun v hp' => v = some (.int ((r_X7_isUnkept cell S).1)) ∧ ms_M A ((r_X7_isUnkept cell S).2) hp' ∧ fr A hp hp') (fun _ _ => False) := by
  refine qq_met pn_X7 (Nat.le_of_ble_eq_true rfl) (Nat.le_of_ble_eq_true rfl) kc_X7_isUnkept ?_
  show qq_Go _ hp 0 0 0 [(0, .ref 84), (1, .int cell)] [] _ _
  refine qq_aload_n dX7_isUnkept_0 rfl 0 rfl ?_
  refine qq_iload_n dX7_isUnkept_1 rfl 1 rfl ?_
  refine qq_less (bc' := 0 + 0) (bs' := 0 + 0) (by omega) (by omega) ?_
  refine qq_callS (bc := 0) (bs := 0) (mc := 0) (ms := 0) (as := [.int cell]) (rest := [.ref 84]) dX7_isUnkept_2 (mt_X7_isNoCell hp cell) rfl kl_X7_123 ks_X7_isNoCell ki_X7 kc_X7_isNoCell kd_X7_isNoCell rfl (by decide) (by decide) (Nat.le_of_ble_eq_true rfl) (fun v hp' hv _ _ => ?_) (fun E hp' zx _ _ => zx.elim)
  obtain ⟨rfl, rfl⟩ := hv
  show qq_Go _ hp (0) (0) 5 [(0, .ref 84), (1, .int cell)] [.int (f_X7_isNoCell cell), .ref 84] _ _
  refine qq_aload_n dX7_isUnkept_5 rfl 0 rfl ?_
  refine mx_get hS dX7_isUnkept_6 4 (by decide) rfl kl_X7_28 ?_
  refine qq_iload_n dX7_isUnkept_9 rfl 1 rfl ?_
  refine qq_less (bc' := 0 + 0) (bs' := 0 + 0) (by omega) (by omega) ?_
  refine qq_callS (bc := 0) (bs := 0) (mc := 0) (ms := 0) (as := [.int cell]) (rest := [.ref A.1, .int (f_X7_isNoCell cell), .ref 84]) dX7_isUnkept_10 (mt_X7_isNoCell hp cell) rfl kl_X7_123 ks_X7_isNoCell ki_X7 kc_X7_isNoCell kd_X7_isNoCell rfl (by decide) (by decide) (Nat.le_of_ble_eq_true rfl) (fun v hp' hv _ _ => ?_) (fun E hp' zx _ _ => zx.elim)
  obtain ⟨rfl, rfl⟩ := hv
  show qq_Go _ hp (0) (0) 13 [(0, .ref 84), (1, .int cell)] [.int (f_X7_isNoCell cell), .ref A.1, .int (f_X7_isNoCell cell), .ref 84] _ _
  refine qq_if_eq (tgt := 20) dX7_isUnkept_13 (by decide) (fun zc1 => ?_) (fun zc1 => ?_)
  · have zv1 := qx_cell zc1
    refine qq_iload_n dX7_isUnkept_20 rfl 1 rfl ?_
    refine qq_iald dX7_isUnkept_21 hS.2.2.2.1 zv1 ?_
    refine qq_iconst (v := 1) dX7_isUnkept_22 (by decide) ?_
    refine qq_icmp_le (tgt := 30) dX7_isUnkept_23 (by decide) (fun zc2 => ?_) (fun zc2 => ?_)
    · refine qq_iconst (v := 0) dX7_isUnkept_30 (by decide) ?_
      refine qq_less (bc' := 0 + 0) (bs' := 0 + 0) (by omega) (by omega) ?_
      refine qq_callV (bc := 0) (bs := 0) (mc := 0) (ms := 0) (o := 84) (ci := 4) (N := 11) (T := TX7) (as := [.int (f_X7_isNoCell cell), .int 0]) (rest := []) dX7_isUnkept_31 hS.2.2.1 (by decide) rfl (mt_X7_isRefused hp A S hS (f_X7_isNoCell cell) (0 : Int32) ) rfl kl_X7_126 kn_X7_isRefused ke_X7_isRefused ki_X7 kc_X7_isRefused kd_X7_isRefused rfl (by decide) (by decide) (Nat.le_of_ble_eq_true rfl) (fun v hp1 hv _ _ => ?_) (fun E hp' zx _ _ => zx.elim)
      obtain ⟨rfl, hS1, fr1⟩ := hv
      show qq_Go _ hp1 (0) (0) 34 [(0, .ref 84), (1, .int cell)] [.int ((r_X7_isRefused (f_X7_isNoCell cell) (0 : Int32) S).1)] _ _
      have ze : r_X7_isUnkept cell S = ((r_X7_isRefused (f_X7_isNoCell cell) (0 : Int32) S).1, (r_X7_isRefused (f_X7_isNoCell cell) (0 : Int32) S).2) := by
        rw [r_X7_isUnkept, if_pos zc1, if_pos zc2]
      exact qq_iret dX7_isUnkept_34 rfl (qq_nz bz_X7_isRefused) ⟨by rw [ze], by rw [ze]; first | exact ms_pr hS1 | exact hS1, fr1⟩
    · refine qq_iconst (v := 1) dX7_isUnkept_26 (by decide) ?_
      refine qq_goto (tgt := 31) dX7_isUnkept_27 (by decide) ?_
      refine qq_less (bc' := 0 + 0) (bs' := 0 + 0) (by omega) (by omega) ?_
      refine qq_callV (bc := 0) (bs := 0) (mc := 0) (ms := 0) (o := 84) (ci := 4) (N := 11) (T := TX7) (as := [.int (f_X7_isNoCell cell), .int 1]) (rest := []) dX7_isUnkept_31 hS.2.2.1 (by decide) rfl (mt_X7_isRefused hp A S hS (f_X7_isNoCell cell) (1 : Int32) ) rfl kl_X7_126 kn_X7_isRefused ke_X7_isRefused ki_X7 kc_X7_isRefused kd_X7_isRefused rfl (by decide) (by decide) (Nat.le_of_ble_eq_true rfl) (fun v hp2 hv _ _ => ?_) (fun E hp' zx _ _ => zx.elim)
      obtain ⟨rfl, hS2, fr2⟩ := hv
      show qq_Go _ hp2 (0) (0) 34 [(0, .ref 84), (1, .int cell)] [.int ((r_X7_isRefused (f_X7_isNoCell cell) (1 : Int32) S).1)] _ _
      have ze : r_X7_isUnkept cell S = ((r_X7_isRefused (f_X7_isNoCell cell) (1 : Int32) S).1, (r_X7_isRefused (f_X7_isNoCell cell) (1 : Int32) S).2) := by
        rw [r_X7_isUnkept, if_pos zc1, if_neg zc2]
      exact qq_iret dX7_isUnkept_34 rfl (qq_nz bz_X7_isRefused) ⟨by rw [ze], by rw [ze]; first | exact ms_pr hS2 | exact hS2, fr2⟩
  · refine qq_iconst (v := 0) dX7_isUnkept_16 (by decide) ?_
    refine qq_goto (tgt := 21) dX7_isUnkept_17 (by decide) ?_
    refine qq_iald dX7_isUnkept_21 hS.2.2.2.1 (vp_d (by decide)) ?_
    refine qq_iconst (v := 1) dX7_isUnkept_22 (by decide) ?_
    refine qq_icmp_le (tgt := 30) dX7_isUnkept_23 (by decide) (fun zc3 => ?_) (fun zc3 => ?_)
    · refine qq_iconst (v := 0) dX7_isUnkept_30 (by decide) ?_
      refine qq_less (bc' := 0 + 0) (bs' := 0 + 0) (by omega) (by omega) ?_
      refine qq_callV (bc := 0) (bs := 0) (mc := 0) (ms := 0) (o := 84) (ci := 4) (N := 11) (T := TX7) (as := [.int (f_X7_isNoCell cell), .int 0]) (rest := []) dX7_isUnkept_31 hS.2.2.1 (by decide) rfl (mt_X7_isRefused hp A S hS (f_X7_isNoCell cell) (0 : Int32) ) rfl kl_X7_126 kn_X7_isRefused ke_X7_isRefused ki_X7 kc_X7_isRefused kd_X7_isRefused rfl (by decide) (by decide) (Nat.le_of_ble_eq_true rfl) (fun v hp3 hv _ _ => ?_) (fun E hp' zx _ _ => zx.elim)
      obtain ⟨rfl, hS3, fr3⟩ := hv
      show qq_Go _ hp3 (0) (0) 34 [(0, .ref 84), (1, .int cell)] [.int ((r_X7_isRefused (f_X7_isNoCell cell) (0 : Int32) S).1)] _ _
      have ze : r_X7_isUnkept cell S = ((r_X7_isRefused (f_X7_isNoCell cell) (0 : Int32) S).1, (r_X7_isRefused (f_X7_isNoCell cell) (0 : Int32) S).2) := by
        rw [r_X7_isUnkept, if_neg zc1, if_pos zc3]
      exact qq_iret dX7_isUnkept_34 rfl (qq_nz bz_X7_isRefused) ⟨by rw [ze], by rw [ze]; first | exact ms_pr hS3 | exact hS3, fr3⟩
    · refine qq_iconst (v := 1) dX7_isUnkept_26 (by decide) ?_
      refine qq_goto (tgt := 31) dX7_isUnkept_27 (by decide) ?_
      refine qq_less (bc' := 0 + 0) (bs' := 0 + 0) (by omega) (by omega) ?_
      refine qq_callV (bc := 0) (bs := 0) (mc := 0) (ms := 0) (o := 84) (ci := 4) (N := 11) (T := TX7) (as := [.int (f_X7_isNoCell cell), .int 1]) (rest := []) dX7_isUnkept_31 hS.2.2.1 (by decide) rfl (mt_X7_isRefused hp A S hS (f_X7_isNoCell cell) (1 : Int32) ) rfl kl_X7_126 kn_X7_isRefused ke_X7_isRefused ki_X7 kc_X7_isRefused kd_X7_isRefused rfl (by decide) (by decide) (Nat.le_of_ble_eq_true rfl) (fun v hp4 hv _ _ => ?_) (fun E hp' zx _ _ => zx.elim)
      obtain ⟨rfl, hS4, fr4⟩ := hv
      show qq_Go _ hp4 (0) (0) 34 [(0, .ref 84), (1, .int cell)] [.int ((r_X7_isRefused (f_X7_isNoCell cell) (1 : Int32) S).1)] _ _
      have ze : r_X7_isUnkept cell S = ((r_X7_isRefused (f_X7_isNoCell cell) (1 : Int32) S).1, (r_X7_isRefused (f_X7_isNoCell cell) (1 : Int32) S).2) := by
        rw [r_X7_isUnkept, if_neg zc1, if_neg zc3]
      exact qq_iret dX7_isUnkept_34 rfl (qq_nz bz_X7_isRefused) ⟨by rw [ze], by rw [ze]; first | exact ms_pr hS4 | exact hS4, fr4⟩
def lf_X7_digitsOf_60 (cell : Int32) (sz9 : Int32) (dn9 : Int32) (it9 : Int64)  : Nat → Int32 → sM → Int32
  | 0, hi9, S => hi9
  | fu + 1, hi9, S => if (sz9 >>> (hi9 &&& 31)) ≤ 1 then hi9 else lf_X7_digitsOf_60 cell sz9 dn9 it9 fu (hi9 + 1) S
set_option maxRecDepth 4000 in
theorem lq_X7_digitsOf_60 (cell : Int32) (sz9 : Int32) (dn9 : Int32) (it9 : Int64) (A : qA) (S : sM)   {P : Option Value → qq_H → Prop} {PX : String → qq_H → Prop} : ∀ (fu : Nat) (hi9 : Int32) (hp : qq_H) , ms_M A S hp → 0 ≤ hi9.toInt ∧ hi9.toInt ≤ 31 → (32 - hi9.toInt).toNat < fu → ∀ (bc bs : Nat), qq_Go mX7_digitsOf hp bc bs 74 [(0, .ref 84), (1, .int cell), (2, .int sz9), (3, .int dn9), (4, .long it9), (6, .int (lf_X7_digitsOf_60 cell sz9 dn9 it9 fu hi9 S))] [] P PX → qq_Go mX7_digitsOf hp (0 * fu + bc) (0 * fu + bs) 60 [(0, .ref 84), (1, .int cell), (2, .int sz9), (3, .int dn9), (4, .long it9), (6, .int hi9)] [] P PX := by
  intro fu
  induction fu with
  | zero => intro hi9 hp hS zs zz; exact absurd zz (Nat.not_lt_zero _)
  | succ fu lqih =>
    intro hi9 hp hS zs zh bc bs hk
    refine qq_iload_n dX7_digitsOf_60 rfl 2 rfl ?_
    refine qq_iload dX7_digitsOf_61 5 rfl ?_
    refine qq_ishr dX7_digitsOf_63 ?_
    refine qq_iconst (v := 1) dX7_digitsOf_64 (by decide) ?_
    refine qq_icmp_le (tgt := 74) dX7_digitsOf_65 (by decide) (fun zc1 => ?_) (fun zc1 => ?_)
    · have ze : lf_X7_digitsOf_60 cell sz9 dn9 it9 (fu + 1) hi9 S = hi9 := by
        rw [lf_X7_digitsOf_60, if_pos zc1]
      rw [ze] at hk
      refine qq_less (bc' := bc) (bs' := bs) (by omega) (by omega) ?_
      exact hk
    · refine qq_iinc (v := hi9 + 1) (loc' := [(0, .ref 84), (1, .int cell), (2, .int sz9), (3, .int dn9), (4, .long it9), (6, .int (hi9 + 1))]) dX7_digitsOf_68 5 rfl rfl [1, 2, 3, 4, 5, 0] (Nat.le_of_ble_eq_true rfl) rfl ?_
      refine qq_goto (tgt := 60) dX7_digitsOf_71 (by decide) ?_
      have ze : lf_X7_digitsOf_60 cell sz9 dn9 it9 (fu + 1) hi9 S = lf_X7_digitsOf_60 cell sz9 dn9 it9 fu (hi9 + 1) S := by
        rw [lf_X7_digitsOf_60, if_neg zc1]
      rw [ze] at hk
      refine qq_less (bc' := 0 * fu + bc) (bs' := 0 * fu + bs) (by omega) (by omega) ?_
      exact lqih (hi9 + 1) hp hS (qm_shs zs (by assumption)) (qm_shm zs (by assumption) zh) bc bs hk
def r_X7_digitsOf (cell : Int32)  (S : sM) : Int64 := if (S.2.2.1 cell.toNatClampNeg) = 0 then if 0 ≤ (S.2.1 cell.toNatClampNeg) then if (S.1 cell.toNatClampNeg) = 1 then if (f_J9_abs_0f7a4 (S.2.1 cell.toNatClampNeg)) ≤ 0 then 9218868437227405312 else (((1021 + ((lf_X7_digitsOf_60 cell (f_J9_abs_0f7a4 (S.2.1 cell.toNatClampNeg)) (0 : Int32) (9218868437227405312 : Int64) 33 (0 : Int32) S).toInt64)) <<< ((52 : Int32).toInt64 &&& 63)) + (((f_J9_abs_0f7a4 (S.2.1 cell.toNatClampNeg)).toInt64) <<< ((52 - (lf_X7_digitsOf_60 cell (f_J9_abs_0f7a4 (S.2.1 cell.toNatClampNeg)) (0 : Int32) (9218868437227405312 : Int64) 33 (0 : Int32) S)).toInt64 &&& 63))) - 4503599627370496 else if (f_J9_abs_0f7a4 (S.2.1 cell.toNatClampNeg)) ≤ 0 then 0 else (((1021 + ((lf_X7_digitsOf_60 cell (f_J9_abs_0f7a4 (S.2.1 cell.toNatClampNeg)) (0 : Int32) (0 : Int64) 33 (0 : Int32) S).toInt64)) <<< ((52 : Int32).toInt64 &&& 63)) + (((f_J9_abs_0f7a4 (S.2.1 cell.toNatClampNeg)).toInt64) <<< ((52 - (lf_X7_digitsOf_60 cell (f_J9_abs_0f7a4 (S.2.1 cell.toNatClampNeg)) (0 : Int32) (0 : Int64) 33 (0 : Int32) S)).toInt64 &&& 63))) - 4503599627370496 else if (S.1 cell.toNatClampNeg) = 1 then if (f_J9_abs_0f7a4 (S.2.1 cell.toNatClampNeg)) ≤ 0 then 9218868437227405312 + (-9223372036854775808) else ((((1021 + ((lf_X7_digitsOf_60 cell (f_J9_abs_0f7a4 (S.2.1 cell.toNatClampNeg)) (1 : Int32) (9218868437227405312 : Int64) 33 (0 : Int32) S).toInt64)) <<< ((52 : Int32).toInt64 &&& 63)) + (((f_J9_abs_0f7a4 (S.2.1 cell.toNatClampNeg)).toInt64) <<< ((52 - (lf_X7_digitsOf_60 cell (f_J9_abs_0f7a4 (S.2.1 cell.toNatClampNeg)) (1 : Int32) (9218868437227405312 : Int64) 33 (0 : Int32) S)).toInt64 &&& 63))) - 4503599627370496) + (-9223372036854775808) else if (f_J9_abs_0f7a4 (S.2.1 cell.toNatClampNeg)) ≤ 0 then 0 + (-9223372036854775808) else ((((1021 + ((lf_X7_digitsOf_60 cell (f_J9_abs_0f7a4 (S.2.1 cell.toNatClampNeg)) (1 : Int32) (0 : Int64) 33 (0 : Int32) S).toInt64)) <<< ((52 : Int32).toInt64 &&& 63)) + (((f_J9_abs_0f7a4 (S.2.1 cell.toNatClampNeg)).toInt64) <<< ((52 - (lf_X7_digitsOf_60 cell (f_J9_abs_0f7a4 (S.2.1 cell.toNatClampNeg)) (1 : Int32) (0 : Int64) 33 (0 : Int32) S)).toInt64 &&& 63))) - 4503599627370496) + (-9223372036854775808) else if (S.1 cell.toNatClampNeg) = 1 then if (f_J9_abs_0f7a4 (S.2.1 cell.toNatClampNeg)) ≤ 0 then 9218868437227405312 + (-9223372036854775808) else ((((1021 + ((lf_X7_digitsOf_60 cell (f_J9_abs_0f7a4 (S.2.1 cell.toNatClampNeg)) (1 : Int32) (9218868437227405312 : Int64) 33 (0 : Int32) S).toInt64)) <<< ((52 : Int32).toInt64 &&& 63)) + (((f_J9_abs_0f7a4 (S.2.1 cell.toNatClampNeg)).toInt64) <<< ((52 - (lf_X7_digitsOf_60 cell (f_J9_abs_0f7a4 (S.2.1 cell.toNatClampNeg)) (1 : Int32) (9218868437227405312 : Int64) 33 (0 : Int32) S)).toInt64 &&& 63))) - 4503599627370496) + (-9223372036854775808) else if (f_J9_abs_0f7a4 (S.2.1 cell.toNatClampNeg)) ≤ 0 then 0 + (-9223372036854775808) else ((((1021 + ((lf_X7_digitsOf_60 cell (f_J9_abs_0f7a4 (S.2.1 cell.toNatClampNeg)) (1 : Int32) (0 : Int64) 33 (0 : Int32) S).toInt64)) <<< ((52 : Int32).toInt64 &&& 63)) + (((f_J9_abs_0f7a4 (S.2.1 cell.toNatClampNeg)).toInt64) <<< ((52 - (lf_X7_digitsOf_60 cell (f_J9_abs_0f7a4 (S.2.1 cell.toNatClampNeg)) (1 : Int32) (0 : Int64) 33 (0 : Int32) S)).toInt64 &&& 63))) - 4503599627370496) + (-9223372036854775808)
set_option maxRecDepth 4000 in
theorem mt_X7_digitsOf (hp : qq_H) (A : qA) (S : sM) (hS : ms_M A S hp) (cell : Int32)     (zcell : vp_in cell 8) : qq_Mt mX7_digitsOf [.ref 84, .int cell] hp 0 0 (fun v hp' => v = some (.long (r_X7_digitsOf cell S)) ∧ hp = hp') (fun _ _ => False) := by
  refine qq_met pn_X7 (Nat.le_of_ble_eq_true rfl) (Nat.le_of_ble_eq_true rfl) kc_X7_digitsOf ?_
  show qq_Go _ hp 0 0 0 [(0, .ref 84), (1, .int cell)] [] _ _
  refine qq_aload_n dX7_digitsOf_0 rfl 0 rfl ?_
  refine mx_get hS dX7_digitsOf_1 5 (by decide) rfl kl_X7_31 ?_
  refine qq_iload_n dX7_digitsOf_4 rfl 1 rfl ?_
  refine qq_iald dX7_digitsOf_5 hS.2.2.2.2.1 zcell ?_
  refine qq_less (bc' := 0 + 0) (bs' := 0 + 0) (by omega) (by omega) ?_
  refine qq_callS (bc := 0) (bs := 0) (mc := 0) (ms := 0) (as := [.int (S.2.1 cell.toNatClampNeg)]) (rest := []) dX7_digitsOf_6 (mt_J9_abs_0f7a4 hp (S.2.1 cell.toNatClampNeg)) rfl kl_X7_68 ks_J9_abs_0f7a4 ki_J9 kc_J9_abs_0f7a4 kd_J9_abs_0f7a4 rfl (by decide) (by decide) (Nat.le_of_ble_eq_true rfl) (fun v hp' hv _ _ => ?_) (fun E hp' zx _ _ => zx.elim)
  obtain ⟨rfl, rfl⟩ := hv
  show qq_Go _ hp (0) (0) 9 [(0, .ref 84), (1, .int cell)] [.int (f_J9_abs_0f7a4 (S.2.1 cell.toNatClampNeg))] _ _
  refine qq_istore_n (loc' := [(0, .ref 84), (1, .int cell), (2, .int (f_J9_abs_0f7a4 (S.2.1 cell.toNatClampNeg)))]) dX7_digitsOf_9 rfl [1, 2, 0] (Nat.le_of_ble_eq_true rfl) rfl ?_
  refine qq_aload_n dX7_digitsOf_10 rfl 0 rfl ?_
  refine mx_get hS dX7_digitsOf_11 6 (by decide) rfl kl_X7_34 ?_
  refine qq_iload_n dX7_digitsOf_14 rfl 1 rfl ?_
  refine qq_zald dX7_digitsOf_15 hS.2.2.2.2.2.1 zcell ?_
  refine qq_if_ne (tgt := 28) dX7_digitsOf_16 (by decide) (fun zc1 => ?_) (fun zc1 => ?_)
  · refine qq_iconst (v := 1) dX7_digitsOf_28 (by decide) ?_
    refine qq_goto (tgt := 33) dX7_digitsOf_29 (by decide) ?_
    refine qq_istore_n (loc' := [(0, .ref 84), (1, .int cell), (2, .int (f_J9_abs_0f7a4 (S.2.1 cell.toNatClampNeg))), (3, .int 1)]) dX7_digitsOf_33 rfl [1, 2, 3, 0] (Nat.le_of_ble_eq_true rfl) rfl ?_
    refine qq_aload_n dX7_digitsOf_34 rfl 0 rfl ?_
    refine mx_get hS dX7_digitsOf_35 4 (by decide) rfl kl_X7_28 ?_
    refine qq_iload_n dX7_digitsOf_38 rfl 1 rfl ?_
    refine qq_iald dX7_digitsOf_39 hS.2.2.2.1 zcell ?_
    refine qq_iconst (v := 1) dX7_digitsOf_40 (by decide) ?_
    refine qq_icmp_ne (tgt := 50) dX7_digitsOf_41 (by decide) (fun zc2 => ?_) (fun zc2 => ?_)
    · refine qq_lconst (v := 0) dX7_digitsOf_50 (by decide) ?_
      refine qq_lstore (loc' := [(0, .ref 84), (1, .int cell), (2, .int (f_J9_abs_0f7a4 (S.2.1 cell.toNatClampNeg))), (3, .int 1), (4, .long 0)]) dX7_digitsOf_51 [1, 2, 3, 4, 0] (Nat.le_of_ble_eq_true rfl) rfl ?_
      refine qq_iload_n dX7_digitsOf_53 rfl 2 rfl ?_
      refine qq_if_le (tgt := 99) dX7_digitsOf_54 (by decide) (fun zc3 => ?_) (fun zc3 => ?_)
      · refine qq_iload_n dX7_digitsOf_99 rfl 3 rfl ?_
        refine qq_if_eq (tgt := 112) dX7_digitsOf_100 (by decide) (fun z => absurd z (by decide)) (fun _ => ?_)
        refine qq_lload dX7_digitsOf_103 4 rfl ?_
        refine qq_ldc2 (v := (-9223372036854775808)) dX7_digitsOf_105 kl_X7_201 ?_
        refine qq_ladd dX7_digitsOf_108 ?_
        refine qq_goto (tgt := 114) dX7_digitsOf_109 (by decide) ?_
        have ze : r_X7_digitsOf cell S = 0 + (-9223372036854775808) := by
          rw [r_X7_digitsOf, if_neg zc1, if_neg zc2, if_pos zc3]
        exact qq_lret dX7_digitsOf_114 rfl ⟨by rw [ze], rfl⟩
      · refine qq_iconst (v := 0) dX7_digitsOf_57 (by decide) ?_
        refine qq_istore (loc' := [(0, .ref 84), (1, .int cell), (2, .int (f_J9_abs_0f7a4 (S.2.1 cell.toNatClampNeg))), (3, .int 1), (4, .long 0), (6, .int 0)]) dX7_digitsOf_58 [1, 2, 3, 4, 5, 0] (Nat.le_of_ble_eq_true rfl) rfl ?_
        refine qq_less (bc' := 0 + 0) (bs' := 0 + 0) (by omega) (by omega) ?_
        refine qq_less (bc' := 0 * 33 + (0)) (bs' := 0 * 33 + (0)) (by omega) (by omega) ?_
        refine lq_X7_digitsOf_60 cell (f_J9_abs_0f7a4 (S.2.1 cell.toNatClampNeg)) (1 : Int32) (0 : Int64) A S 33 (0 : Int32) hp hS (by decide) (by decide) (0) (0) ?_
        show qq_Go _ hp (0) (0) 74 [(0, .ref 84), (1, .int cell), (2, .int (f_J9_abs_0f7a4 (S.2.1 cell.toNatClampNeg))), (3, .int 1), (4, .long 0), (6, .int (lf_X7_digitsOf_60 cell (f_J9_abs_0f7a4 (S.2.1 cell.toNatClampNeg)) (1 : Int32) (0 : Int64) 33 (0 : Int32) S))] [] _ _
        refine qq_ldc2 (v := 1021) dX7_digitsOf_74 kl_X7_197 ?_
        refine qq_iload dX7_digitsOf_77 5 rfl ?_
        refine qq_i2l dX7_digitsOf_79 ?_
        refine qq_ladd dX7_digitsOf_80 ?_
        refine qq_bipush (v := 52) dX7_digitsOf_81 (by decide) ?_
        refine qq_lshl dX7_digitsOf_83 ?_
        refine qq_iload_n dX7_digitsOf_84 rfl 2 rfl ?_
        refine qq_i2l dX7_digitsOf_85 ?_
        refine qq_bipush (v := 52) dX7_digitsOf_86 (by decide) ?_
        refine qq_iload dX7_digitsOf_88 5 rfl ?_
        refine qq_isub dX7_digitsOf_90 ?_
        refine qq_lshl dX7_digitsOf_91 ?_
        refine qq_ladd dX7_digitsOf_92 ?_
        refine qq_ldc2 (v := 4503599627370496) dX7_digitsOf_93 kl_X7_199 ?_
        refine qq_lsub dX7_digitsOf_96 ?_
        refine qq_lstore (loc' := [(0, .ref 84), (1, .int cell), (2, .int (f_J9_abs_0f7a4 (S.2.1 cell.toNatClampNeg))), (3, .int 1), (4, .long ((((1021 + ((lf_X7_digitsOf_60 cell (f_J9_abs_0f7a4 (S.2.1 cell.toNatClampNeg)) (1 : Int32) (0 : Int64) 33 (0 : Int32) S).toInt64)) <<< ((52 : Int32).toInt64 &&& 63)) + (((f_J9_abs_0f7a4 (S.2.1 cell.toNatClampNeg)).toInt64) <<< ((52 - (lf_X7_digitsOf_60 cell (f_J9_abs_0f7a4 (S.2.1 cell.toNatClampNeg)) (1 : Int32) (0 : Int64) 33 (0 : Int32) S)).toInt64 &&& 63))) - 4503599627370496)), (6, .int (lf_X7_digitsOf_60 cell (f_J9_abs_0f7a4 (S.2.1 cell.toNatClampNeg)) (1 : Int32) (0 : Int64) 33 (0 : Int32) S))]) dX7_digitsOf_97 [1, 2, 3, 4, 0, 5] (Nat.le_of_ble_eq_true rfl) rfl ?_
        refine qq_iload_n dX7_digitsOf_99 rfl 3 rfl ?_
        refine qq_if_eq (tgt := 112) dX7_digitsOf_100 (by decide) (fun z => absurd z (by decide)) (fun _ => ?_)
        refine qq_lload dX7_digitsOf_103 4 rfl ?_
        refine qq_ldc2 (v := (-9223372036854775808)) dX7_digitsOf_105 kl_X7_201 ?_
        refine qq_ladd dX7_digitsOf_108 ?_
        refine qq_goto (tgt := 114) dX7_digitsOf_109 (by decide) ?_
        have ze : r_X7_digitsOf cell S = ((((1021 + ((lf_X7_digitsOf_60 cell (f_J9_abs_0f7a4 (S.2.1 cell.toNatClampNeg)) (1 : Int32) (0 : Int64) 33 (0 : Int32) S).toInt64)) <<< ((52 : Int32).toInt64 &&& 63)) + (((f_J9_abs_0f7a4 (S.2.1 cell.toNatClampNeg)).toInt64) <<< ((52 - (lf_X7_digitsOf_60 cell (f_J9_abs_0f7a4 (S.2.1 cell.toNatClampNeg)) (1 : Int32) (0 : Int64) 33 (0 : Int32) S)).toInt64 &&& 63))) - 4503599627370496) + (-9223372036854775808) := by
          rw [r_X7_digitsOf, if_neg zc1, if_neg zc2, if_neg zc3]
        exact qq_lret dX7_digitsOf_114 rfl ⟨by rw [ze], rfl⟩
    · refine qq_ldc2 (v := 9218868437227405312) dX7_digitsOf_44 kl_X7_195 ?_
      refine qq_goto (tgt := 51) dX7_digitsOf_47 (by decide) ?_
      refine qq_lstore (loc' := [(0, .ref 84), (1, .int cell), (2, .int (f_J9_abs_0f7a4 (S.2.1 cell.toNatClampNeg))), (3, .int 1), (4, .long 9218868437227405312)]) dX7_digitsOf_51 [1, 2, 3, 4, 0] (Nat.le_of_ble_eq_true rfl) rfl ?_
      refine qq_iload_n dX7_digitsOf_53 rfl 2 rfl ?_
      refine qq_if_le (tgt := 99) dX7_digitsOf_54 (by decide) (fun zc4 => ?_) (fun zc4 => ?_)
      · refine qq_iload_n dX7_digitsOf_99 rfl 3 rfl ?_
        refine qq_if_eq (tgt := 112) dX7_digitsOf_100 (by decide) (fun z => absurd z (by decide)) (fun _ => ?_)
        refine qq_lload dX7_digitsOf_103 4 rfl ?_
        refine qq_ldc2 (v := (-9223372036854775808)) dX7_digitsOf_105 kl_X7_201 ?_
        refine qq_ladd dX7_digitsOf_108 ?_
        refine qq_goto (tgt := 114) dX7_digitsOf_109 (by decide) ?_
        have ze : r_X7_digitsOf cell S = 9218868437227405312 + (-9223372036854775808) := by
          rw [r_X7_digitsOf, if_neg zc1, if_pos zc2, if_pos zc4]
        exact qq_lret dX7_digitsOf_114 rfl ⟨by rw [ze], rfl⟩
      · refine qq_iconst (v := 0) dX7_digitsOf_57 (by decide) ?_
        refine qq_istore (loc' := [(0, .ref 84), (1, .int cell), (2, .int (f_J9_abs_0f7a4 (S.2.1 cell.toNatClampNeg))), (3, .int 1), (4, .long 9218868437227405312), (6, .int 0)]) dX7_digitsOf_58 [1, 2, 3, 4, 5, 0] (Nat.le_of_ble_eq_true rfl) rfl ?_
        refine qq_less (bc' := 0 + 0) (bs' := 0 + 0) (by omega) (by omega) ?_
        refine qq_less (bc' := 0 * 33 + (0)) (bs' := 0 * 33 + (0)) (by omega) (by omega) ?_
        refine lq_X7_digitsOf_60 cell (f_J9_abs_0f7a4 (S.2.1 cell.toNatClampNeg)) (1 : Int32) (9218868437227405312 : Int64) A S 33 (0 : Int32) hp hS (by decide) (by decide) (0) (0) ?_
        show qq_Go _ hp (0) (0) 74 [(0, .ref 84), (1, .int cell), (2, .int (f_J9_abs_0f7a4 (S.2.1 cell.toNatClampNeg))), (3, .int 1), (4, .long 9218868437227405312), (6, .int (lf_X7_digitsOf_60 cell (f_J9_abs_0f7a4 (S.2.1 cell.toNatClampNeg)) (1 : Int32) (9218868437227405312 : Int64) 33 (0 : Int32) S))] [] _ _
        refine qq_ldc2 (v := 1021) dX7_digitsOf_74 kl_X7_197 ?_
        refine qq_iload dX7_digitsOf_77 5 rfl ?_
        refine qq_i2l dX7_digitsOf_79 ?_
        refine qq_ladd dX7_digitsOf_80 ?_
        refine qq_bipush (v := 52) dX7_digitsOf_81 (by decide) ?_
        refine qq_lshl dX7_digitsOf_83 ?_
        refine qq_iload_n dX7_digitsOf_84 rfl 2 rfl ?_
        refine qq_i2l dX7_digitsOf_85 ?_
        refine qq_bipush (v := 52) dX7_digitsOf_86 (by decide) ?_
        refine qq_iload dX7_digitsOf_88 5 rfl ?_
        refine qq_isub dX7_digitsOf_90 ?_
        refine qq_lshl dX7_digitsOf_91 ?_
        refine qq_ladd dX7_digitsOf_92 ?_
        refine qq_ldc2 (v := 4503599627370496) dX7_digitsOf_93 kl_X7_199 ?_
        refine qq_lsub dX7_digitsOf_96 ?_
        refine qq_lstore (loc' := [(0, .ref 84), (1, .int cell), (2, .int (f_J9_abs_0f7a4 (S.2.1 cell.toNatClampNeg))), (3, .int 1), (4, .long ((((1021 + ((lf_X7_digitsOf_60 cell (f_J9_abs_0f7a4 (S.2.1 cell.toNatClampNeg)) (1 : Int32) (9218868437227405312 : Int64) 33 (0 : Int32) S).toInt64)) <<< ((52 : Int32).toInt64 &&& 63)) + (((f_J9_abs_0f7a4 (S.2.1 cell.toNatClampNeg)).toInt64) <<< ((52 - (lf_X7_digitsOf_60 cell (f_J9_abs_0f7a4 (S.2.1 cell.toNatClampNeg)) (1 : Int32) (9218868437227405312 : Int64) 33 (0 : Int32) S)).toInt64 &&& 63))) - 4503599627370496)), (6, .int (lf_X7_digitsOf_60 cell (f_J9_abs_0f7a4 (S.2.1 cell.toNatClampNeg)) (1 : Int32) (9218868437227405312 : Int64) 33 (0 : Int32) S))]) dX7_digitsOf_97 [1, 2, 3, 4, 0, 5] (Nat.le_of_ble_eq_true rfl) rfl ?_
        refine qq_iload_n dX7_digitsOf_99 rfl 3 rfl ?_
        refine qq_if_eq (tgt := 112) dX7_digitsOf_100 (by decide) (fun z => absurd z (by decide)) (fun _ => ?_)
        refine qq_lload dX7_digitsOf_103 4 rfl ?_
        refine qq_ldc2 (v := (-9223372036854775808)) dX7_digitsOf_105 kl_X7_201 ?_
        refine qq_ladd dX7_digitsOf_108 ?_
        refine qq_goto (tgt := 114) dX7_digitsOf_109 (by decide) ?_
        have ze : r_X7_digitsOf cell S = ((((1021 + ((lf_X7_digitsOf_60 cell (f_J9_abs_0f7a4 (S.2.1 cell.toNatClampNeg)) (1 : Int32) (9218868437227405312 : Int64) 33 (0 : Int32) S).toInt64)) <<< ((52 : Int32).toInt64 &&& 63)) + (((f_J9_abs_0f7a4 (S.2.1 cell.toNatClampNeg)).toInt64) <<< ((52 - (lf_X7_digitsOf_60 cell (f_J9_abs_0f7a4 (S.2.1 cell.toNatClampNeg)) (1 : Int32) (9218868437227405312 : Int64) 33 (0 : Int32) S)).toInt64 &&& 63))) - 4503599627370496) + (-9223372036854775808) := by
          rw [r_X7_digitsOf, if_neg zc1, if_pos zc2, if_neg zc4]
        exact qq_lret dX7_digitsOf_114 rfl ⟨by rw [ze], rfl⟩
  · refine qq_aload_n dX7_digitsOf_19 rfl 0 rfl ?_
    refine mx_get hS dX7_digitsOf_20 5 (by decide) rfl kl_X7_31 ?_
    refine qq_iload_n dX7_digitsOf_23 rfl 1 rfl ?_
    refine qq_iald dX7_digitsOf_24 hS.2.2.2.2.1 zcell ?_
    refine qq_if_ge (tgt := 32) dX7_digitsOf_25 (by decide) (fun zc5 => ?_) (fun zc5 => ?_)
    · refine qq_iconst (v := 0) dX7_digitsOf_32 (by decide) ?_
      refine qq_istore_n (loc' := [(0, .ref 84), (1, .int cell), (2, .int (f_J9_abs_0f7a4 (S.2.1 cell.toNatClampNeg))), (3, .int 0)]) dX7_digitsOf_33 rfl [1, 2, 3, 0] (Nat.le_of_ble_eq_true rfl) rfl ?_
      refine qq_aload_n dX7_digitsOf_34 rfl 0 rfl ?_
      refine mx_get hS dX7_digitsOf_35 4 (by decide) rfl kl_X7_28 ?_
      refine qq_iload_n dX7_digitsOf_38 rfl 1 rfl ?_
      refine qq_iald dX7_digitsOf_39 hS.2.2.2.1 zcell ?_
      refine qq_iconst (v := 1) dX7_digitsOf_40 (by decide) ?_
      refine qq_icmp_ne (tgt := 50) dX7_digitsOf_41 (by decide) (fun zc6 => ?_) (fun zc6 => ?_)
      · refine qq_lconst (v := 0) dX7_digitsOf_50 (by decide) ?_
        refine qq_lstore (loc' := [(0, .ref 84), (1, .int cell), (2, .int (f_J9_abs_0f7a4 (S.2.1 cell.toNatClampNeg))), (3, .int 0), (4, .long 0)]) dX7_digitsOf_51 [1, 2, 3, 4, 0] (Nat.le_of_ble_eq_true rfl) rfl ?_
        refine qq_iload_n dX7_digitsOf_53 rfl 2 rfl ?_
        refine qq_if_le (tgt := 99) dX7_digitsOf_54 (by decide) (fun zc7 => ?_) (fun zc7 => ?_)
        · refine qq_iload_n dX7_digitsOf_99 rfl 3 rfl ?_
          refine qq_if_eq (tgt := 112) dX7_digitsOf_100 (by decide) (fun _ => ?_) (fun z => absurd (by decide) z)
          refine qq_lload dX7_digitsOf_112 4 rfl ?_
          have ze : r_X7_digitsOf cell S = 0 := by
            rw [r_X7_digitsOf, if_pos zc1, if_pos zc5, if_neg zc6, if_pos zc7]
          exact qq_lret dX7_digitsOf_114 rfl ⟨by rw [ze], rfl⟩
        · refine qq_iconst (v := 0) dX7_digitsOf_57 (by decide) ?_
          refine qq_istore (loc' := [(0, .ref 84), (1, .int cell), (2, .int (f_J9_abs_0f7a4 (S.2.1 cell.toNatClampNeg))), (3, .int 0), (4, .long 0), (6, .int 0)]) dX7_digitsOf_58 [1, 2, 3, 4, 5, 0] (Nat.le_of_ble_eq_true rfl) rfl ?_
          refine qq_less (bc' := 0 + 0) (bs' := 0 + 0) (by omega) (by omega) ?_
          refine qq_less (bc' := 0 * 33 + (0)) (bs' := 0 * 33 + (0)) (by omega) (by omega) ?_
          refine lq_X7_digitsOf_60 cell (f_J9_abs_0f7a4 (S.2.1 cell.toNatClampNeg)) (0 : Int32) (0 : Int64) A S 33 (0 : Int32) hp hS (by decide) (by decide) (0) (0) ?_
          show qq_Go _ hp (0) (0) 74 [(0, .ref 84), (1, .int cell), (2, .int (f_J9_abs_0f7a4 (S.2.1 cell.toNatClampNeg))), (3, .int 0), (4, .long 0), (6, .int (lf_X7_digitsOf_60 cell (f_J9_abs_0f7a4 (S.2.1 cell.toNatClampNeg)) (0 : Int32) (0 : Int64) 33 (0 : Int32) S))] [] _ _
          refine qq_ldc2 (v := 1021) dX7_digitsOf_74 kl_X7_197 ?_
          refine qq_iload dX7_digitsOf_77 5 rfl ?_
          refine qq_i2l dX7_digitsOf_79 ?_
          refine qq_ladd dX7_digitsOf_80 ?_
          refine qq_bipush (v := 52) dX7_digitsOf_81 (by decide) ?_
          refine qq_lshl dX7_digitsOf_83 ?_
          refine qq_iload_n dX7_digitsOf_84 rfl 2 rfl ?_
          refine qq_i2l dX7_digitsOf_85 ?_
          refine qq_bipush (v := 52) dX7_digitsOf_86 (by decide) ?_
          refine qq_iload dX7_digitsOf_88 5 rfl ?_
          refine qq_isub dX7_digitsOf_90 ?_
          refine qq_lshl dX7_digitsOf_91 ?_
          refine qq_ladd dX7_digitsOf_92 ?_
          refine qq_ldc2 (v := 4503599627370496) dX7_digitsOf_93 kl_X7_199 ?_
          refine qq_lsub dX7_digitsOf_96 ?_
          refine qq_lstore (loc' := [(0, .ref 84), (1, .int cell), (2, .int (f_J9_abs_0f7a4 (S.2.1 cell.toNatClampNeg))), (3, .int 0), (4, .long ((((1021 + ((lf_X7_digitsOf_60 cell (f_J9_abs_0f7a4 (S.2.1 cell.toNatClampNeg)) (0 : Int32) (0 : Int64) 33 (0 : Int32) S).toInt64)) <<< ((52 : Int32).toInt64 &&& 63)) + (((f_J9_abs_0f7a4 (S.2.1 cell.toNatClampNeg)).toInt64) <<< ((52 - (lf_X7_digitsOf_60 cell (f_J9_abs_0f7a4 (S.2.1 cell.toNatClampNeg)) (0 : Int32) (0 : Int64) 33 (0 : Int32) S)).toInt64 &&& 63))) - 4503599627370496)), (6, .int (lf_X7_digitsOf_60 cell (f_J9_abs_0f7a4 (S.2.1 cell.toNatClampNeg)) (0 : Int32) (0 : Int64) 33 (0 : Int32) S))]) dX7_digitsOf_97 [1, 2, 3, 4, 0, 5] (Nat.le_of_ble_eq_true rfl) rfl ?_
          refine qq_iload_n dX7_digitsOf_99 rfl 3 rfl ?_
          refine qq_if_eq (tgt := 112) dX7_digitsOf_100 (by decide) (fun _ => ?_) (fun z => absurd (by decide) z)
          refine qq_lload dX7_digitsOf_112 4 rfl ?_
          have ze : r_X7_digitsOf cell S = (((1021 + ((lf_X7_digitsOf_60 cell (f_J9_abs_0f7a4 (S.2.1 cell.toNatClampNeg)) (0 : Int32) (0 : Int64) 33 (0 : Int32) S).toInt64)) <<< ((52 : Int32).toInt64 &&& 63)) + (((f_J9_abs_0f7a4 (S.2.1 cell.toNatClampNeg)).toInt64) <<< ((52 - (lf_X7_digitsOf_60 cell (f_J9_abs_0f7a4 (S.2.1 cell.toNatClampNeg)) (0 : Int32) (0 : Int64) 33 (0 : Int32) S)).toInt64 &&& 63))) - 4503599627370496 := by
            rw [r_X7_digitsOf, if_pos zc1, if_pos zc5, if_neg zc6, if_neg zc7]
          exact qq_lret dX7_digitsOf_114 rfl ⟨by rw [ze], rfl⟩
      · refine qq_ldc2 (v := 9218868437227405312) dX7_digitsOf_44 kl_X7_195 ?_
        refine qq_goto (tgt := 51) dX7_digitsOf_47 (by decide) ?_
        refine qq_lstore (loc' := [(0, .ref 84), (1, .int cell), (2, .int (f_J9_abs_0f7a4 (S.2.1 cell.toNatClampNeg))), (3, .int 0), (4, .long 9218868437227405312)]) dX7_digitsOf_51 [1, 2, 3, 4, 0] (Nat.le_of_ble_eq_true rfl) rfl ?_
        refine qq_iload_n dX7_digitsOf_53 rfl 2 rfl ?_
        refine qq_if_le (tgt := 99) dX7_digitsOf_54 (by decide) (fun zc8 => ?_) (fun zc8 => ?_)
        · refine qq_iload_n dX7_digitsOf_99 rfl 3 rfl ?_
          refine qq_if_eq (tgt := 112) dX7_digitsOf_100 (by decide) (fun _ => ?_) (fun z => absurd (by decide) z)
          refine qq_lload dX7_digitsOf_112 4 rfl ?_
          have ze : r_X7_digitsOf cell S = 9218868437227405312 := by
            rw [r_X7_digitsOf, if_pos zc1, if_pos zc5, if_pos zc6, if_pos zc8]
          exact qq_lret dX7_digitsOf_114 rfl ⟨by rw [ze], rfl⟩
        · refine qq_iconst (v := 0) dX7_digitsOf_57 (by decide) ?_
          refine qq_istore (loc' := [(0, .ref 84), (1, .int cell), (2, .int (f_J9_abs_0f7a4 (S.2.1 cell.toNatClampNeg))), (3, .int 0), (4, .long 9218868437227405312), (6, .int 0)]) dX7_digitsOf_58 [1, 2, 3, 4, 5, 0] (Nat.le_of_ble_eq_true rfl) rfl ?_
          refine qq_less (bc' := 0 + 0) (bs' := 0 + 0) (by omega) (by omega) ?_
          refine qq_less (bc' := 0 * 33 + (0)) (bs' := 0 * 33 + (0)) (by omega) (by omega) ?_
          refine lq_X7_digitsOf_60 cell (f_J9_abs_0f7a4 (S.2.1 cell.toNatClampNeg)) (0 : Int32) (9218868437227405312 : Int64) A S 33 (0 : Int32) hp hS (by decide) (by decide) (0) (0) ?_
          show qq_Go _ hp (0) (0) 74 [(0, .ref 84), (1, .int cell), (2, .int (f_J9_abs_0f7a4 (S.2.1 cell.toNatClampNeg))), (3, .int 0), (4, .long 9218868437227405312), (6, .int (lf_X7_digitsOf_60 cell (f_J9_abs_0f7a4 (S.2.1 cell.toNatClampNeg)) (0 : Int32) (9218868437227405312 : Int64) 33 (0 : Int32) S))] [] _ _
          refine qq_ldc2 (v := 1021) dX7_digitsOf_74 kl_X7_197 ?_
          refine qq_iload dX7_digitsOf_77 5 rfl ?_
          refine qq_i2l dX7_digitsOf_79 ?_
          refine qq_ladd dX7_digitsOf_80 ?_
          refine qq_bipush (v := 52) dX7_digitsOf_81 (by decide) ?_
          refine qq_lshl dX7_digitsOf_83 ?_
          refine qq_iload_n dX7_digitsOf_84 rfl 2 rfl ?_
          refine qq_i2l dX7_digitsOf_85 ?_
          refine qq_bipush (v := 52) dX7_digitsOf_86 (by decide) ?_
          refine qq_iload dX7_digitsOf_88 5 rfl ?_
          refine qq_isub dX7_digitsOf_90 ?_
          refine qq_lshl dX7_digitsOf_91 ?_
          refine qq_ladd dX7_digitsOf_92 ?_
          refine qq_ldc2 (v := 4503599627370496) dX7_digitsOf_93 kl_X7_199 ?_
          refine qq_lsub dX7_digitsOf_96 ?_
          refine qq_lstore (loc' := [(0, .ref 84), (1, .int cell), (2, .int (f_J9_abs_0f7a4 (S.2.1 cell.toNatClampNeg))), (3, .int 0), (4, .long ((((1021 + ((lf_X7_digitsOf_60 cell (f_J9_abs_0f7a4 (S.2.1 cell.toNatClampNeg)) (0 : Int32) (9218868437227405312 : Int64) 33 (0 : Int32) S).toInt64)) <<< ((52 : Int32).toInt64 &&& 63)) + (((f_J9_abs_0f7a4 (S.2.1 cell.toNatClampNeg)).toInt64) <<< ((52 - (lf_X7_digitsOf_60 cell (f_J9_abs_0f7a4 (S.2.1 cell.toNatClampNeg)) (0 : Int32) (9218868437227405312 : Int64) 33 (0 : Int32) S)).toInt64 &&& 63))) - 4503599627370496)), (6, .int (lf_X7_digitsOf_60 cell (f_J9_abs_0f7a4 (S.2.1 cell.toNatClampNeg)) (0 : Int32) (9218868437227405312 : Int64) 33 (0 : Int32) S))]) dX7_digitsOf_97 [1, 2, 3, 4, 0, 5] (Nat.le_of_ble_eq_true rfl) rfl ?_
          refine qq_iload_n dX7_digitsOf_99 rfl 3 rfl ?_
          refine qq_if_eq (tgt := 112) dX7_digitsOf_100 (by decide) (fun _ => ?_) (fun z => absurd (by decide) z)
          refine qq_lload dX7_digitsOf_112 4 rfl ?_
          have ze : r_X7_digitsOf cell S = (((1021 + ((lf_X7_digitsOf_60 cell (f_J9_abs_0f7a4 (S.2.1 cell.toNatClampNeg)) (0 : Int32) (9218868437227405312 : Int64) 33 (0 : Int32) S).toInt64)) <<< ((52 : Int32).toInt64 &&& 63)) + (((f_J9_abs_0f7a4 (S.2.1 cell.toNatClampNeg)).toInt64) <<< ((52 - (lf_X7_digitsOf_60 cell (f_J9_abs_0f7a4 (S.2.1 cell.toNatClampNeg)) (0 : Int32) (9218868437227405312 : Int64) 33 (0 : Int32) S)).toInt64 &&& 63))) - 4503599627370496 := by
            rw [r_X7_digitsOf, if_pos zc1, if_pos zc5, if_pos zc6, if_neg zc8]
          exact qq_lret dX7_digitsOf_114 rfl ⟨by rw [ze], rfl⟩
    · refine qq_iconst (v := 1) dX7_digitsOf_28 (by decide) ?_
      refine qq_goto (tgt := 33) dX7_digitsOf_29 (by decide) ?_
      refine qq_istore_n (loc' := [(0, .ref 84), (1, .int cell), (2, .int (f_J9_abs_0f7a4 (S.2.1 cell.toNatClampNeg))), (3, .int 1)]) dX7_digitsOf_33 rfl [1, 2, 3, 0] (Nat.le_of_ble_eq_true rfl) rfl ?_
      refine qq_aload_n dX7_digitsOf_34 rfl 0 rfl ?_
      refine mx_get hS dX7_digitsOf_35 4 (by decide) rfl kl_X7_28 ?_
      refine qq_iload_n dX7_digitsOf_38 rfl 1 rfl ?_
      refine qq_iald dX7_digitsOf_39 hS.2.2.2.1 zcell ?_
      refine qq_iconst (v := 1) dX7_digitsOf_40 (by decide) ?_
      refine qq_icmp_ne (tgt := 50) dX7_digitsOf_41 (by decide) (fun zc9 => ?_) (fun zc9 => ?_)
      · refine qq_lconst (v := 0) dX7_digitsOf_50 (by decide) ?_
        refine qq_lstore (loc' := [(0, .ref 84), (1, .int cell), (2, .int (f_J9_abs_0f7a4 (S.2.1 cell.toNatClampNeg))), (3, .int 1), (4, .long 0)]) dX7_digitsOf_51 [1, 2, 3, 4, 0] (Nat.le_of_ble_eq_true rfl) rfl ?_
        refine qq_iload_n dX7_digitsOf_53 rfl 2 rfl ?_
        refine qq_if_le (tgt := 99) dX7_digitsOf_54 (by decide) (fun zc10 => ?_) (fun zc10 => ?_)
        · refine qq_iload_n dX7_digitsOf_99 rfl 3 rfl ?_
          refine qq_if_eq (tgt := 112) dX7_digitsOf_100 (by decide) (fun z => absurd z (by decide)) (fun _ => ?_)
          refine qq_lload dX7_digitsOf_103 4 rfl ?_
          refine qq_ldc2 (v := (-9223372036854775808)) dX7_digitsOf_105 kl_X7_201 ?_
          refine qq_ladd dX7_digitsOf_108 ?_
          refine qq_goto (tgt := 114) dX7_digitsOf_109 (by decide) ?_
          have ze : r_X7_digitsOf cell S = 0 + (-9223372036854775808) := by
            rw [r_X7_digitsOf, if_pos zc1, if_neg zc5, if_neg zc9, if_pos zc10]
          exact qq_lret dX7_digitsOf_114 rfl ⟨by rw [ze], rfl⟩
        · refine qq_iconst (v := 0) dX7_digitsOf_57 (by decide) ?_
          refine qq_istore (loc' := [(0, .ref 84), (1, .int cell), (2, .int (f_J9_abs_0f7a4 (S.2.1 cell.toNatClampNeg))), (3, .int 1), (4, .long 0), (6, .int 0)]) dX7_digitsOf_58 [1, 2, 3, 4, 5, 0] (Nat.le_of_ble_eq_true rfl) rfl ?_
          refine qq_less (bc' := 0 + 0) (bs' := 0 + 0) (by omega) (by omega) ?_
          refine qq_less (bc' := 0 * 33 + (0)) (bs' := 0 * 33 + (0)) (by omega) (by omega) ?_
          refine lq_X7_digitsOf_60 cell (f_J9_abs_0f7a4 (S.2.1 cell.toNatClampNeg)) (1 : Int32) (0 : Int64) A S 33 (0 : Int32) hp hS (by decide) (by decide) (0) (0) ?_
          show qq_Go _ hp (0) (0) 74 [(0, .ref 84), (1, .int cell), (2, .int (f_J9_abs_0f7a4 (S.2.1 cell.toNatClampNeg))), (3, .int 1), (4, .long 0), (6, .int (lf_X7_digitsOf_60 cell (f_J9_abs_0f7a4 (S.2.1 cell.toNatClampNeg)) (1 : Int32) (0 : Int64) 33 (0 : Int32) S))] [] _ _
          refine qq_ldc2 (v := 1021) dX7_digitsOf_74 kl_X7_197 ?_
          refine qq_iload dX7_digitsOf_77 5 rfl ?_
          refine qq_i2l dX7_digitsOf_79 ?_
          refine qq_ladd dX7_digitsOf_80 ?_
          refine qq_bipush (v := 52) dX7_digitsOf_81 (by decide) ?_
          refine qq_lshl dX7_digitsOf_83 ?_
          refine qq_iload_n dX7_digitsOf_84 rfl 2 rfl ?_
          refine qq_i2l dX7_digitsOf_85 ?_
          refine qq_bipush (v := 52) dX7_digitsOf_86 (by decide) ?_
          refine qq_iload dX7_digitsOf_88 5 rfl ?_
          refine qq_isub dX7_digitsOf_90 ?_
          refine qq_lshl dX7_digitsOf_91 ?_
          refine qq_ladd dX7_digitsOf_92 ?_
          refine qq_ldc2 (v := 4503599627370496) dX7_digitsOf_93 kl_X7_199 ?_
          refine qq_lsub dX7_digitsOf_96 ?_
          refine qq_lstore (loc' := [(0, .ref 84), (1, .int cell), (2, .int (f_J9_abs_0f7a4 (S.2.1 cell.toNatClampNeg))), (3, .int 1), (4, .long ((((1021 + ((lf_X7_digitsOf_60 cell (f_J9_abs_0f7a4 (S.2.1 cell.toNatClampNeg)) (1 : Int32) (0 : Int64) 33 (0 : Int32) S).toInt64)) <<< ((52 : Int32).toInt64 &&& 63)) + (((f_J9_abs_0f7a4 (S.2.1 cell.toNatClampNeg)).toInt64) <<< ((52 - (lf_X7_digitsOf_60 cell (f_J9_abs_0f7a4 (S.2.1 cell.toNatClampNeg)) (1 : Int32) (0 : Int64) 33 (0 : Int32) S)).toInt64 &&& 63))) - 4503599627370496)), (6, .int (lf_X7_digitsOf_60 cell (f_J9_abs_0f7a4 (S.2.1 cell.toNatClampNeg)) (1 : Int32) (0 : Int64) 33 (0 : Int32) S))]) dX7_digitsOf_97 [1, 2, 3, 4, 0, 5] (Nat.le_of_ble_eq_true rfl) rfl ?_
          refine qq_iload_n dX7_digitsOf_99 rfl 3 rfl ?_
          refine qq_if_eq (tgt := 112) dX7_digitsOf_100 (by decide) (fun z => absurd z (by decide)) (fun _ => ?_)
          refine qq_lload dX7_digitsOf_103 4 rfl ?_
          refine qq_ldc2 (v := (-9223372036854775808)) dX7_digitsOf_105 kl_X7_201 ?_
          refine qq_ladd dX7_digitsOf_108 ?_
          refine qq_goto (tgt := 114) dX7_digitsOf_109 (by decide) ?_
          have ze : r_X7_digitsOf cell S = ((((1021 + ((lf_X7_digitsOf_60 cell (f_J9_abs_0f7a4 (S.2.1 cell.toNatClampNeg)) (1 : Int32) (0 : Int64) 33 (0 : Int32) S).toInt64)) <<< ((52 : Int32).toInt64 &&& 63)) + (((f_J9_abs_0f7a4 (S.2.1 cell.toNatClampNeg)).toInt64) <<< ((52 - (lf_X7_digitsOf_60 cell (f_J9_abs_0f7a4 (S.2.1 cell.toNatClampNeg)) (1 : Int32) (0 : Int64) 33 (0 : Int32) S)).toInt64 &&& 63))) - 4503599627370496) + (-9223372036854775808) := by
            rw [r_X7_digitsOf, if_pos zc1, if_neg zc5, if_neg zc9, if_neg zc10]
          exact qq_lret dX7_digitsOf_114 rfl ⟨by rw [ze], rfl⟩
      · refine qq_ldc2 (v := 9218868437227405312) dX7_digitsOf_44 kl_X7_195 ?_
        refine qq_goto (tgt := 51) dX7_digitsOf_47 (by decide) ?_
        refine qq_lstore (loc' := [(0, .ref 84), (1, .int cell), (2, .int (f_J9_abs_0f7a4 (S.2.1 cell.toNatClampNeg))), (3, .int 1), (4, .long 9218868437227405312)]) dX7_digitsOf_51 [1, 2, 3, 4, 0] (Nat.le_of_ble_eq_true rfl) rfl ?_
        refine qq_iload_n dX7_digitsOf_53 rfl 2 rfl ?_
        refine qq_if_le (tgt := 99) dX7_digitsOf_54 (by decide) (fun zc11 => ?_) (fun zc11 => ?_)
        · refine qq_iload_n dX7_digitsOf_99 rfl 3 rfl ?_
          refine qq_if_eq (tgt := 112) dX7_digitsOf_100 (by decide) (fun z => absurd z (by decide)) (fun _ => ?_)
          refine qq_lload dX7_digitsOf_103 4 rfl ?_
          refine qq_ldc2 (v := (-9223372036854775808)) dX7_digitsOf_105 kl_X7_201 ?_
          refine qq_ladd dX7_digitsOf_108 ?_
          refine qq_goto (tgt := 114) dX7_digitsOf_109 (by decide) ?_
          have ze : r_X7_digitsOf cell S = 9218868437227405312 + (-9223372036854775808) := by
            rw [r_X7_digitsOf, if_pos zc1, if_neg zc5, if_pos zc9, if_pos zc11]
          exact qq_lret dX7_digitsOf_114 rfl ⟨by rw [ze], rfl⟩
        · refine qq_iconst (v := 0) dX7_digitsOf_57 (by decide) ?_
          refine qq_istore (loc' := [(0, .ref 84), (1, .int cell), (2, .int (f_J9_abs_0f7a4 (S.2.1 cell.toNatClampNeg))), (3, .int 1), (4, .long 9218868437227405312), (6, .int 0)]) dX7_digitsOf_58 [1, 2, 3, 4, 5, 0] (Nat.le_of_ble_eq_true rfl) rfl ?_
          refine qq_less (bc' := 0 + 0) (bs' := 0 + 0) (by omega) (by omega) ?_
          refine qq_less (bc' := 0 * 33 + (0)) (bs' := 0 * 33 + (0)) (by omega) (by omega) ?_
          refine lq_X7_digitsOf_60 cell (f_J9_abs_0f7a4 (S.2.1 cell.toNatClampNeg)) (1 : Int32) (9218868437227405312 : Int64) A S 33 (0 : Int32) hp hS (by decide) (by decide) (0) (0) ?_
          show qq_Go _ hp (0) (0) 74 [(0, .ref 84), (1, .int cell), (2, .int (f_J9_abs_0f7a4 (S.2.1 cell.toNatClampNeg))), (3, .int 1), (4, .long 9218868437227405312), (6, .int (lf_X7_digitsOf_60 cell (f_J9_abs_0f7a4 (S.2.1 cell.toNatClampNeg)) (1 : Int32) (9218868437227405312 : Int64) 33 (0 : Int32) S))] [] _ _
          refine qq_ldc2 (v := 1021) dX7_digitsOf_74 kl_X7_197 ?_
          refine qq_iload dX7_digitsOf_77 5 rfl ?_
          refine qq_i2l dX7_digitsOf_79 ?_
          refine qq_ladd dX7_digitsOf_80 ?_
          refine qq_bipush (v := 52) dX7_digitsOf_81 (by decide) ?_
          refine qq_lshl dX7_digitsOf_83 ?_
          refine qq_iload_n dX7_digitsOf_84 rfl 2 rfl ?_
          refine qq_i2l dX7_digitsOf_85 ?_
          refine qq_bipush (v := 52) dX7_digitsOf_86 (by decide) ?_
          refine qq_iload dX7_digitsOf_88 5 rfl ?_
          refine qq_isub dX7_digitsOf_90 ?_
          refine qq_lshl dX7_digitsOf_91 ?_
          refine qq_ladd dX7_digitsOf_92 ?_
          refine qq_ldc2 (v := 4503599627370496) dX7_digitsOf_93 kl_X7_199 ?_
          refine qq_lsub dX7_digitsOf_96 ?_
          refine qq_lstore (loc' := [(0, .ref 84), (1, .int cell), (2, .int (f_J9_abs_0f7a4 (S.2.1 cell.toNatClampNeg))), (3, .int 1), (4, .long ((((1021 + ((lf_X7_digitsOf_60 cell (f_J9_abs_0f7a4 (S.2.1 cell.toNatClampNeg)) (1 : Int32) (9218868437227405312 : Int64) 33 (0 : Int32) S).toInt64)) <<< ((52 : Int32).toInt64 &&& 63)) + (((f_J9_abs_0f7a4 (S.2.1 cell.toNatClampNeg)).toInt64) <<< ((52 - (lf_X7_digitsOf_60 cell (f_J9_abs_0f7a4 (S.2.1 cell.toNatClampNeg)) (1 : Int32) (9218868437227405312 : Int64) 33 (0 : Int32) S)).toInt64 &&& 63))) - 4503599627370496)), (6, .int (lf_X7_digitsOf_60 cell (f_J9_abs_0f7a4 (S.2.1 cell.toNatClampNeg)) (1 : Int32) (9218868437227405312 : Int64) 33 (0 : Int32) S))]) dX7_digitsOf_97 [1, 2, 3, 4, 0, 5] (Nat.le_of_ble_eq_true rfl) rfl ?_
          refine qq_iload_n dX7_digitsOf_99 rfl 3 rfl ?_
          refine qq_if_eq (tgt := 112) dX7_digitsOf_100 (by decide) (fun z => absurd z (by decide)) (fun _ => ?_)
          refine qq_lload dX7_digitsOf_103 4 rfl ?_
          refine qq_ldc2 (v := (-9223372036854775808)) dX7_digitsOf_105 kl_X7_201 ?_
          refine qq_ladd dX7_digitsOf_108 ?_
          refine qq_goto (tgt := 114) dX7_digitsOf_109 (by decide) ?_
          have ze : r_X7_digitsOf cell S = ((((1021 + ((lf_X7_digitsOf_60 cell (f_J9_abs_0f7a4 (S.2.1 cell.toNatClampNeg)) (1 : Int32) (9218868437227405312 : Int64) 33 (0 : Int32) S).toInt64)) <<< ((52 : Int32).toInt64 &&& 63)) + (((f_J9_abs_0f7a4 (S.2.1 cell.toNatClampNeg)).toInt64) <<< ((52 - (lf_X7_digitsOf_60 cell (f_J9_abs_0f7a4 (S.2.1 cell.toNatClampNeg)) (1 : Int32) (9218868437227405312 : Int64) 33 (0 : Int32) S)).toInt64 &&& 63))) - 4503599627370496) + (-9223372036854775808) := by
            rw [r_X7_digitsOf, if_pos zc1, if_neg zc5, if_pos zc9, if_neg zc11]
          exact qq_lret dX7_digitsOf_114 rfl ⟨by rw [ze], rfl⟩
def r_X7_areNone (one : Int32) (other : Int32)  (S : sM) : Int32 × sM := if (f_X7_isNoCell one) = 0 then if (f_X7_isNoCell other) = 0 then ((r_X7_isRefused (0 : Int32) (0 : Int32) S).1, (r_X7_isRefused (0 : Int32) (0 : Int32) S).2) else ((r_X7_isRefused (1 : Int32) (0 : Int32) S).1, (r_X7_isRefused (1 : Int32) (0 : Int32) S).2) else ((r_X7_isRefused (1 : Int32) (0 : Int32) S).1, (r_X7_isRefused (1 : Int32) (0 : Int32) S).2)
set_option maxRecDepth 4000 in
theorem mt_X7_areNone (hp : qq_H) (A : qA) (S : sM) (hS : ms_M A S hp) (one : Int32) (other : Int32)      : qq_Mt mX7_areNone [.ref 84, .int one, .int other] hp 0 0 (fun v hp' => v = some (.int ((r_X7_areNone one other S).1)) ∧ ms_M A ((r_X7_areNone one other S).2) hp' ∧ fr A hp hp') (fun _ _ => False) := by
  refine qq_met pn_X7 (Nat.le_of_ble_eq_true rfl) (Nat.le_of_ble_eq_true rfl) kc_X7_areNone ?_
  show qq_Go _ hp 0 0 0 [(0, .ref 84), (1, .int one), (2, .int other)] [] _ _
  refine qq_aload_n dX7_areNone_0 rfl 0 rfl ?_
  refine qq_iload_n dX7_areNone_1 rfl 1 rfl ?_
  refine qq_less (bc' := 0 + 0) (bs' := 0 + 0) (by omega) (by omega) ?_
  refine qq_callS (bc := 0) (bs := 0) (mc := 0) (ms := 0) (as := [.int one]) (rest := [.ref 84]) dX7_areNone_2 (mt_X7_isNoCell hp one) rfl kl_X7_123 ks_X7_isNoCell ki_X7 kc_X7_isNoCell kd_X7_isNoCell rfl (by decide) (by decide) (Nat.le_of_ble_eq_true rfl) (fun v hp' hv _ _ => ?_) (fun E hp' zx _ _ => zx.elim)
  obtain ⟨rfl, rfl⟩ := hv
  show qq_Go _ hp (0) (0) 5 [(0, .ref 84), (1, .int one), (2, .int other)] [.int (f_X7_isNoCell one), .ref 84] _ _
  refine qq_if_ne (tgt := 15) dX7_areNone_5 (by decide) (fun zc1 => ?_) (fun zc1 => ?_)
  · refine qq_iconst (v := 1) dX7_areNone_15 (by decide) ?_
    refine qq_goto (tgt := 20) dX7_areNone_16 (by decide) ?_
    refine qq_iconst (v := 0) dX7_areNone_20 (by decide) ?_
    refine qq_less (bc' := 0 + 0) (bs' := 0 + 0) (by omega) (by omega) ?_
    refine qq_callV (bc := 0) (bs := 0) (mc := 0) (ms := 0) (o := 84) (ci := 4) (N := 11) (T := TX7) (as := [.int 1, .int 0]) (rest := []) dX7_areNone_21 hS.2.2.1 (by decide) rfl (mt_X7_isRefused hp A S hS (1 : Int32) (0 : Int32) ) rfl kl_X7_126 kn_X7_isRefused ke_X7_isRefused ki_X7 kc_X7_isRefused kd_X7_isRefused rfl (by decide) (by decide) (Nat.le_of_ble_eq_true rfl) (fun v hp1 hv _ _ => ?_) (fun E hp' zx _ _ => zx.elim)
    obtain ⟨rfl, hS1, fr1⟩ := hv
    show qq_Go _ hp1 (0) (0) 24 [(0, .ref 84), (1, .int one), (2, .int other)] [.int ((r_X7_isRefused (1 : Int32) (0 : Int32) S).1)] _ _
    have ze : r_X7_areNone one other S = ((r_X7_isRefused (1 : Int32) (0 : Int32) S).1, (r_X7_isRefused (1 : Int32) (0 : Int32) S).2) := by
      rw [r_X7_areNone, if_neg zc1]
    exact qq_iret dX7_areNone_24 rfl (qq_nz bz_X7_isRefused) ⟨by rw [ze], by rw [ze]; first | exact ms_pr hS1 | exact hS1, fr1⟩
  · have zv1 := qx_cell zc1
    refine qq_iload_n dX7_areNone_8 rfl 2 rfl ?_
    refine qq_less (bc' := 0 + 0) (bs' := 0 + 0) (by omega) (by omega) ?_
    refine qq_callS (bc := 0) (bs := 0) (mc := 0) (ms := 0) (as := [.int other]) (rest := [.ref 84]) dX7_areNone_9 (mt_X7_isNoCell hp other) rfl kl_X7_123 ks_X7_isNoCell ki_X7 kc_X7_isNoCell kd_X7_isNoCell rfl (by decide) (by decide) (Nat.le_of_ble_eq_true rfl) (fun v hp' hv _ _ => ?_) (fun E hp' zx _ _ => zx.elim)
    obtain ⟨rfl, rfl⟩ := hv
    show qq_Go _ hp (0) (0) 12 [(0, .ref 84), (1, .int one), (2, .int other)] [.int (f_X7_isNoCell other), .ref 84] _ _
    refine qq_if_eq (tgt := 19) dX7_areNone_12 (by decide) (fun zc2 => ?_) (fun zc2 => ?_)
    · have zv2 := qx_cell zc2
      refine qq_iconst (v := 0) dX7_areNone_19 (by decide) ?_
      refine qq_iconst (v := 0) dX7_areNone_20 (by decide) ?_
      refine qq_less (bc' := 0 + 0) (bs' := 0 + 0) (by omega) (by omega) ?_
      refine qq_callV (bc := 0) (bs := 0) (mc := 0) (ms := 0) (o := 84) (ci := 4) (N := 11) (T := TX7) (as := [.int 0, .int 0]) (rest := []) dX7_areNone_21 hS.2.2.1 (by decide) rfl (mt_X7_isRefused hp A S hS (0 : Int32) (0 : Int32) ) rfl kl_X7_126 kn_X7_isRefused ke_X7_isRefused ki_X7 kc_X7_isRefused kd_X7_isRefused rfl (by decide) (by decide) (Nat.le_of_ble_eq_true rfl) (fun v hp2 hv _ _ => ?_) (fun E hp' zx _ _ => zx.elim)
      obtain ⟨rfl, hS2, fr2⟩ := hv
      show qq_Go _ hp2 (0) (0) 24 [(0, .ref 84), (1, .int one), (2, .int other)] [.int ((r_X7_isRefused (0 : Int32) (0 : Int32) S).1)] _ _
      have ze : r_X7_areNone one other S = ((r_X7_isRefused (0 : Int32) (0 : Int32) S).1, (r_X7_isRefused (0 : Int32) (0 : Int32) S).2) := by
        rw [r_X7_areNone, if_pos zc1, if_pos zc2]
      exact qq_iret dX7_areNone_24 rfl (qq_nz bz_X7_isRefused) ⟨by rw [ze], by rw [ze]; first | exact ms_pr hS2 | exact hS2, fr2⟩
    · refine qq_iconst (v := 1) dX7_areNone_15 (by decide) ?_
      refine qq_goto (tgt := 20) dX7_areNone_16 (by decide) ?_
      refine qq_iconst (v := 0) dX7_areNone_20 (by decide) ?_
      refine qq_less (bc' := 0 + 0) (bs' := 0 + 0) (by omega) (by omega) ?_
      refine qq_callV (bc := 0) (bs := 0) (mc := 0) (ms := 0) (o := 84) (ci := 4) (N := 11) (T := TX7) (as := [.int 1, .int 0]) (rest := []) dX7_areNone_21 hS.2.2.1 (by decide) rfl (mt_X7_isRefused hp A S hS (1 : Int32) (0 : Int32) ) rfl kl_X7_126 kn_X7_isRefused ke_X7_isRefused ki_X7 kc_X7_isRefused kd_X7_isRefused rfl (by decide) (by decide) (Nat.le_of_ble_eq_true rfl) (fun v hp3 hv _ _ => ?_) (fun E hp' zx _ _ => zx.elim)
      obtain ⟨rfl, hS3, fr3⟩ := hv
      show qq_Go _ hp3 (0) (0) 24 [(0, .ref 84), (1, .int one), (2, .int other)] [.int ((r_X7_isRefused (1 : Int32) (0 : Int32) S).1)] _ _
      have ze : r_X7_areNone one other S = ((r_X7_isRefused (1 : Int32) (0 : Int32) S).1, (r_X7_isRefused (1 : Int32) (0 : Int32) S).2) := by
        rw [r_X7_areNone, if_pos zc1, if_neg zc2]
      exact qq_iret dX7_areNone_24 rfl (qq_nz bz_X7_isRefused) ⟨by rw [ze], by rw [ze]; first | exact ms_pr hS3 | exact hS3, fr3⟩