theorem qx_ref {i a : Int32} {S : sM} (h : (r_X7_isRefused i a S).1 = 0) : i = 0 := by
  by_cases e : i = 0
  · exact e
  · rw [r_X7_isRefused, if_neg e] at h
    exact absurd h (by show ¬ (1 : Int32) = 0; decide)
theorem qx_cell {c : Int32} (h : f_X7_isNoCell c = 0) : vp_in c 8 := by
  rw [f_X7_isNoCell] at h
  by_cases e : f_X7_isIn c 0 7 = 0
  · rw [if_pos e] at h
    exact absurd h (by decide)
  · rw [f_X7_isIn] at e
    by_cases e1 : c < 0
    · rw [if_pos e1] at e
      exact absurd rfl e
    · rw [if_neg e1] at e
      by_cases e2 : 7 < c
      · rw [if_pos e2] at e
        exact absurd rfl e
      · refine qm_in8 e1 ?_
        rw [Int32.lt_iff_toInt_lt] at e2
        rw [Int32.le_iff_toInt_le]
        have a7 : (7 : Int32).toInt = 7 := rfl
        have a8 : (8 : Int32).toInt = 8 := rfl
        omega

def r_X7_quarter (cell : Int32) (q9 : Int32) (S : sM) : Int32 × sM := if (f_X7_isIn q9 (-160) 160) = 0 then if ((r_X7_isRefused (f_X7_isNoCell cell) (1 : Int32) S).1) = 0 then ((r_X7_come cell (0 : Int32) q9 (0 : Int32) ((r_X7_isRefused (f_X7_isNoCell cell) (1 : Int32) S).2)).1, (r_X7_come cell (0 : Int32) q9 (0 : Int32) ((r_X7_isRefused (f_X7_isNoCell cell) (1 : Int32) S).2)).2) else (0, (r_X7_isRefused (f_X7_isNoCell cell) (1 : Int32) S).2) else if ((r_X7_isRefused (f_X7_isNoCell cell) (0 : Int32) S).1) = 0 then ((r_X7_come cell (0 : Int32) q9 (0 : Int32) ((r_X7_isRefused (f_X7_isNoCell cell) (0 : Int32) S).2)).1, (r_X7_come cell (0 : Int32) q9 (0 : Int32) ((r_X7_isRefused (f_X7_isNoCell cell) (0 : Int32) S).2)).2) else (0, (r_X7_isRefused (f_X7_isNoCell cell) (0 : Int32) S).2)
set_option maxRecDepth 4000 in
theorem mt_X7_quarter {LG : Nat → qR} (hp : qq_H) (S : sM) (hS : ms_M LG S hp) (cell : Int32) (q9 : Int32)  : qq_Mt mX7_quarter [.ref 84, .int cell, .int q9] hp 0 0 (fun v hp' => v = some (.int ((r_X7_quarter cell q9 S).1)) ∧ ms_M LG ((r_X7_quarter cell q9 S).2) hp' ∧ sm_M hp hp') (fun _ _ => False) := by
  refine qq_met (by decide +kernel) (Nat.le_of_ble_eq_true rfl) (Nat.le_of_ble_eq_true rfl) kc_X7_quarter ?_
  show qq_Go _ hp 0 0 0 [(0, .ref 84), (1, .int cell), (2, .int q9)] [] _ _
  refine qq_aload_n dX7_quarter_0 rfl 0 rfl ?_
  refine qq_iload_n dX7_quarter_1 rfl 1 rfl ?_
  refine qq_callS (bc := 0) (bs := 0) (mc := 0) (ms := 0) (as := [.int cell]) (rest := [.ref 84]) dX7_quarter_2 (mt_X7_isNoCell hp cell) rfl kl_X7_123 ks_X7_isNoCell ki_X7 kc_X7_isNoCell kd_X7_isNoCell rfl (by decide) (by decide) (Nat.le_of_ble_eq_true rfl) (fun v hp' hv _ _ => ?_) (fun E hp' zx _ _ => zx.elim)
  obtain ⟨rfl, rfl⟩ := hv
  show qq_Go _ hp 0 0 5 [(0, .ref 84), (1, .int cell), (2, .int q9)] [.int (f_X7_isNoCell cell), .ref 84] _ _
  refine qq_iload_n dX7_quarter_5 rfl 2 rfl ?_
  refine qq_sipush (v := (-160)) dX7_quarter_6 (by decide) ?_
  refine qq_sipush (v := 160) dX7_quarter_9 (by decide) ?_
  refine qq_callS (bc := 0) (bs := 0) (mc := 0) (ms := 0) (as := [.int q9, .int (-160), .int 160]) (rest := [.int (f_X7_isNoCell cell), .ref 84]) dX7_quarter_12 (mt_X7_isIn hp q9 (-160 : Int32) (160 : Int32)) rfl kl_X7_113 ks_X7_isIn ki_X7 kc_X7_isIn kd_X7_isIn rfl (by decide) (by decide) (Nat.le_of_ble_eq_true rfl) (fun v hp' hv _ _ => ?_) (fun E hp' zx _ _ => zx.elim)
  obtain ⟨rfl, rfl⟩ := hv
  show qq_Go _ hp 0 0 15 [(0, .ref 84), (1, .int cell), (2, .int q9)] [.int (f_X7_isIn q9 (-160) 160), .int (f_X7_isNoCell cell), .ref 84] _ _
  refine qq_if_ne (tgt := 22) dX7_quarter_15 (by decide) (fun zc1 => ?_) (fun zc1 => ?_)
  · refine qq_iconst (v := 0) dX7_quarter_22 (by decide) ?_
    refine qq_callV (bc := 0) (bs := 0) (mc := 0) (ms := 0) (o := 84) (ci := 4) (N := 11) (T := TX7) (as := [.int (f_X7_isNoCell cell), .int 0]) (rest := []) dX7_quarter_23 hS.2.2.1 (by decide) rfl (mt_X7_isRefused hp S hS (f_X7_isNoCell cell) (0 : Int32) ) rfl kl_X7_126 kn_X7_isRefused ke_X7_isRefused ki_X7 kc_X7_isRefused kd_X7_isRefused rfl (by decide) (by decide) (Nat.le_of_ble_eq_true rfl) (fun v hp1 hv _ _ => ?_) (fun E hp' zx _ _ => zx.elim)
    obtain ⟨rfl, hS1, sM1⟩ := hv
    show qq_Go _ hp1 0 0 26 [(0, .ref 84), (1, .int cell), (2, .int q9)] [.int ((r_X7_isRefused (f_X7_isNoCell cell) (0 : Int32) S).1)] _ _
    refine qq_if_eq (tgt := 33) dX7_quarter_26 (by decide) (fun zc2 => ?_) (fun zc2 => ?_)
    · refine qq_aload_n dX7_quarter_33 rfl 0 rfl ?_
      refine qq_iload_n dX7_quarter_34 rfl 1 rfl ?_
      refine qq_iconst (v := 0) dX7_quarter_35 (by decide) ?_
      refine qq_iload_n dX7_quarter_36 rfl 2 rfl ?_
      refine qq_iconst (v := 0) dX7_quarter_37 (by decide) ?_
      refine qq_callV (bc := 0) (bs := 0) (mc := 0) (ms := 0) (o := 84) (ci := 4) (N := 11) (T := TX7) (as := [.int cell, .int 0, .int q9, .int 0]) (rest := []) dX7_quarter_38 hS1.2.2.1 (by decide) rfl (mt_X7_come hp1 ((r_X7_isRefused (f_X7_isNoCell cell) (0 : Int32) S).2) hS1 cell (0 : Int32) q9 (0 : Int32) (by first | assumption | exact ⟨by assumption, by assumption⟩ | exact qm_in8 (by assumption) (by assumption) | exact ⟨by assumption, qm_len (by assumption)⟩ | exact qm_in8d (by assumption) (by assumption) | exact qx_cell (qx_ref (by assumption)) | decide)) rfl kl_X7_130 kn_X7_come ke_X7_come ki_X7 kc_X7_come kd_X7_come rfl (by decide) (by decide) (Nat.le_of_ble_eq_true rfl) (fun v hp2 hv _ _ => ?_) (fun E hp' zx _ _ => zx.elim)
      obtain ⟨rfl, hS2, sM2⟩ := hv
      show qq_Go _ hp2 0 0 41 [(0, .ref 84), (1, .int cell), (2, .int q9)] [.int ((r_X7_come cell (0 : Int32) q9 (0 : Int32) ((r_X7_isRefused (f_X7_isNoCell cell) (0 : Int32) S).2)).1)] _ _
      have ze : r_X7_quarter cell q9 S = ((r_X7_come cell (0 : Int32) q9 (0 : Int32) ((r_X7_isRefused (f_X7_isNoCell cell) (0 : Int32) S).2)).1, (r_X7_come cell (0 : Int32) q9 (0 : Int32) ((r_X7_isRefused (f_X7_isNoCell cell) (0 : Int32) S).2)).2) := by
        rw [r_X7_quarter, if_neg zc1, if_pos zc2]
      exact qq_iret dX7_quarter_41 rfl rfl ⟨by rw [ze], by rw [ze]; exact hS2, (smM_t sM1 sM2)⟩
    · refine qq_iconst (v := 0) dX7_quarter_29 (by decide) ?_
      refine qq_goto (tgt := 41) dX7_quarter_30 (by decide) ?_
      have ze : r_X7_quarter cell q9 S = (0, (r_X7_isRefused (f_X7_isNoCell cell) (0 : Int32) S).2) := by
        rw [r_X7_quarter, if_neg zc1, if_neg zc2]
      exact qq_iret dX7_quarter_41 rfl rfl ⟨by rw [ze], by rw [ze]; exact hS1, sM1⟩
  · refine qq_iconst (v := 1) dX7_quarter_18 (by decide) ?_
    refine qq_goto (tgt := 23) dX7_quarter_19 (by decide) ?_
    refine qq_callV (bc := 0) (bs := 0) (mc := 0) (ms := 0) (o := 84) (ci := 4) (N := 11) (T := TX7) (as := [.int (f_X7_isNoCell cell), .int 1]) (rest := []) dX7_quarter_23 hS.2.2.1 (by decide) rfl (mt_X7_isRefused hp S hS (f_X7_isNoCell cell) (1 : Int32) ) rfl kl_X7_126 kn_X7_isRefused ke_X7_isRefused ki_X7 kc_X7_isRefused kd_X7_isRefused rfl (by decide) (by decide) (Nat.le_of_ble_eq_true rfl) (fun v hp3 hv _ _ => ?_) (fun E hp' zx _ _ => zx.elim)
    obtain ⟨rfl, hS3, sM3⟩ := hv
    show qq_Go _ hp3 0 0 26 [(0, .ref 84), (1, .int cell), (2, .int q9)] [.int ((r_X7_isRefused (f_X7_isNoCell cell) (1 : Int32) S).1)] _ _
    refine qq_if_eq (tgt := 33) dX7_quarter_26 (by decide) (fun zc3 => ?_) (fun zc3 => ?_)
    · refine qq_aload_n dX7_quarter_33 rfl 0 rfl ?_
      refine qq_iload_n dX7_quarter_34 rfl 1 rfl ?_
      refine qq_iconst (v := 0) dX7_quarter_35 (by decide) ?_
      refine qq_iload_n dX7_quarter_36 rfl 2 rfl ?_
      refine qq_iconst (v := 0) dX7_quarter_37 (by decide) ?_
      refine qq_callV (bc := 0) (bs := 0) (mc := 0) (ms := 0) (o := 84) (ci := 4) (N := 11) (T := TX7) (as := [.int cell, .int 0, .int q9, .int 0]) (rest := []) dX7_quarter_38 hS3.2.2.1 (by decide) rfl (mt_X7_come hp3 ((r_X7_isRefused (f_X7_isNoCell cell) (1 : Int32) S).2) hS3 cell (0 : Int32) q9 (0 : Int32) (by first | assumption | exact ⟨by assumption, by assumption⟩ | exact qm_in8 (by assumption) (by assumption) | exact ⟨by assumption, qm_len (by assumption)⟩ | exact qm_in8d (by assumption) (by assumption) | exact qx_cell (qx_ref (by assumption)) | decide)) rfl kl_X7_130 kn_X7_come ke_X7_come ki_X7 kc_X7_come kd_X7_come rfl (by decide) (by decide) (Nat.le_of_ble_eq_true rfl) (fun v hp4 hv _ _ => ?_) (fun E hp' zx _ _ => zx.elim)
      obtain ⟨rfl, hS4, sM4⟩ := hv
      show qq_Go _ hp4 0 0 41 [(0, .ref 84), (1, .int cell), (2, .int q9)] [.int ((r_X7_come cell (0 : Int32) q9 (0 : Int32) ((r_X7_isRefused (f_X7_isNoCell cell) (1 : Int32) S).2)).1)] _ _
      have ze : r_X7_quarter cell q9 S = ((r_X7_come cell (0 : Int32) q9 (0 : Int32) ((r_X7_isRefused (f_X7_isNoCell cell) (1 : Int32) S).2)).1, (r_X7_come cell (0 : Int32) q9 (0 : Int32) ((r_X7_isRefused (f_X7_isNoCell cell) (1 : Int32) S).2)).2) := by
        rw [r_X7_quarter, if_pos zc1, if_pos zc3]
      exact qq_iret dX7_quarter_41 rfl rfl ⟨by rw [ze], by rw [ze]; exact hS4, (smM_t sM3 sM4)⟩
    · refine qq_iconst (v := 0) dX7_quarter_29 (by decide) ?_
      refine qq_goto (tgt := 41) dX7_quarter_30 (by decide) ?_
      have ze : r_X7_quarter cell q9 S = (0, (r_X7_isRefused (f_X7_isNoCell cell) (1 : Int32) S).2) := by
        rw [r_X7_quarter, if_pos zc1, if_neg zc3]
      exact qq_iret dX7_quarter_41 rfl rfl ⟨by rw [ze], by rw [ze]; exact hS3, sM3⟩
def r_X7_zero (cell : Int32) (u9 : Int32) (S : sM) : Int32 × sM := if ((r_X7_isRefused (f_X7_isNoCell cell) (0 : Int32) S).1) = 0 then ((r_X7_come cell (0 : Int32) (0 : Int32) u9 ((r_X7_isRefused (f_X7_isNoCell cell) (0 : Int32) S).2)).1, (r_X7_come cell (0 : Int32) (0 : Int32) u9 ((r_X7_isRefused (f_X7_isNoCell cell) (0 : Int32) S).2)).2) else (0, (r_X7_isRefused (f_X7_isNoCell cell) (0 : Int32) S).2)
set_option maxRecDepth 4000 in
theorem mt_X7_zero {LG : Nat → qR} (hp : qq_H) (S : sM) (hS : ms_M LG S hp) (cell : Int32) (u9 : Int32)  : qq_Mt mX7_zero [.ref 84, .int cell, .int u9] hp 0 0 (fun v hp' => v = some (.int ((r_X7_zero cell u9 S).1)) ∧ ms_M LG ((r_X7_zero cell u9 S).2) hp' ∧ sm_M hp hp') (fun _ _ => False) := by
  refine qq_met (by decide +kernel) (Nat.le_of_ble_eq_true rfl) (Nat.le_of_ble_eq_true rfl) kc_X7_zero ?_
  show qq_Go _ hp 0 0 0 [(0, .ref 84), (1, .int cell), (2, .int u9)] [] _ _
  refine qq_aload_n dX7_zero_0 rfl 0 rfl ?_
  refine qq_iload_n dX7_zero_1 rfl 1 rfl ?_
  refine qq_callS (bc := 0) (bs := 0) (mc := 0) (ms := 0) (as := [.int cell]) (rest := [.ref 84]) dX7_zero_2 (mt_X7_isNoCell hp cell) rfl kl_X7_123 ks_X7_isNoCell ki_X7 kc_X7_isNoCell kd_X7_isNoCell rfl (by decide) (by decide) (Nat.le_of_ble_eq_true rfl) (fun v hp' hv _ _ => ?_) (fun E hp' zx _ _ => zx.elim)
  obtain ⟨rfl, rfl⟩ := hv
  show qq_Go _ hp 0 0 5 [(0, .ref 84), (1, .int cell), (2, .int u9)] [.int (f_X7_isNoCell cell), .ref 84] _ _
  refine qq_iconst (v := 0) dX7_zero_5 (by decide) ?_
  refine qq_callV (bc := 0) (bs := 0) (mc := 0) (ms := 0) (o := 84) (ci := 4) (N := 11) (T := TX7) (as := [.int (f_X7_isNoCell cell), .int 0]) (rest := []) dX7_zero_6 hS.2.2.1 (by decide) rfl (mt_X7_isRefused hp S hS (f_X7_isNoCell cell) (0 : Int32) ) rfl kl_X7_126 kn_X7_isRefused ke_X7_isRefused ki_X7 kc_X7_isRefused kd_X7_isRefused rfl (by decide) (by decide) (Nat.le_of_ble_eq_true rfl) (fun v hp1 hv _ _ => ?_) (fun E hp' zx _ _ => zx.elim)
  obtain ⟨rfl, hS1, sM1⟩ := hv
  show qq_Go _ hp1 0 0 9 [(0, .ref 84), (1, .int cell), (2, .int u9)] [.int ((r_X7_isRefused (f_X7_isNoCell cell) (0 : Int32) S).1)] _ _
  refine qq_if_eq (tgt := 16) dX7_zero_9 (by decide) (fun zc1 => ?_) (fun zc1 => ?_)
  · refine qq_aload_n dX7_zero_16 rfl 0 rfl ?_
    refine qq_iload_n dX7_zero_17 rfl 1 rfl ?_
    refine qq_iconst (v := 0) dX7_zero_18 (by decide) ?_
    refine qq_iconst (v := 0) dX7_zero_19 (by decide) ?_
    refine qq_iload_n dX7_zero_20 rfl 2 rfl ?_
    refine qq_callV (bc := 0) (bs := 0) (mc := 0) (ms := 0) (o := 84) (ci := 4) (N := 11) (T := TX7) (as := [.int cell, .int 0, .int 0, .int u9]) (rest := []) dX7_zero_21 hS1.2.2.1 (by decide) rfl (mt_X7_come hp1 ((r_X7_isRefused (f_X7_isNoCell cell) (0 : Int32) S).2) hS1 cell (0 : Int32) (0 : Int32) u9 (by first | assumption | exact ⟨by assumption, by assumption⟩ | exact qm_in8 (by assumption) (by assumption) | exact ⟨by assumption, qm_len (by assumption)⟩ | exact qm_in8d (by assumption) (by assumption) | exact qx_cell (qx_ref (by assumption)) | decide)) rfl kl_X7_130 kn_X7_come ke_X7_come ki_X7 kc_X7_come kd_X7_come rfl (by decide) (by decide) (Nat.le_of_ble_eq_true rfl) (fun v hp2 hv _ _ => ?_) (fun E hp' zx _ _ => zx.elim)
    obtain ⟨rfl, hS2, sM2⟩ := hv
    show qq_Go _ hp2 0 0 24 [(0, .ref 84), (1, .int cell), (2, .int u9)] [.int ((r_X7_come cell (0 : Int32) (0 : Int32) u9 ((r_X7_isRefused (f_X7_isNoCell cell) (0 : Int32) S).2)).1)] _ _
    have ze : r_X7_zero cell u9 S = ((r_X7_come cell (0 : Int32) (0 : Int32) u9 ((r_X7_isRefused (f_X7_isNoCell cell) (0 : Int32) S).2)).1, (r_X7_come cell (0 : Int32) (0 : Int32) u9 ((r_X7_isRefused (f_X7_isNoCell cell) (0 : Int32) S).2)).2) := by
      rw [r_X7_zero, if_pos zc1]
    exact qq_iret dX7_zero_24 rfl rfl ⟨by rw [ze], by rw [ze]; exact hS2, (smM_t sM1 sM2)⟩
  · refine qq_iconst (v := 0) dX7_zero_12 (by decide) ?_
    refine qq_goto (tgt := 24) dX7_zero_13 (by decide) ?_
    have ze : r_X7_zero cell u9 S = (0, (r_X7_isRefused (f_X7_isNoCell cell) (0 : Int32) S).2) := by
      rw [r_X7_zero, if_neg zc1]
    exact qq_iret dX7_zero_24 rfl rfl ⟨by rw [ze], by rw [ze]; exact hS1, sM1⟩
def r_X7_endless (cell : Int32) (u9 : Int32) (S : sM) : Int32 × sM := if ((r_X7_isRefused (f_X7_isNoCell cell) (0 : Int32) S).1) = 0 then ((r_X7_come cell (1 : Int32) (0 : Int32) u9 ((r_X7_isRefused (f_X7_isNoCell cell) (0 : Int32) S).2)).1, (r_X7_come cell (1 : Int32) (0 : Int32) u9 ((r_X7_isRefused (f_X7_isNoCell cell) (0 : Int32) S).2)).2) else (0, (r_X7_isRefused (f_X7_isNoCell cell) (0 : Int32) S).2)
set_option maxRecDepth 4000 in
theorem mt_X7_endless {LG : Nat → qR} (hp : qq_H) (S : sM) (hS : ms_M LG S hp) (cell : Int32) (u9 : Int32)  : qq_Mt mX7_endless [.ref 84, .int cell, .int u9] hp 0 0 (fun v hp' => v = some (.int ((r_X7_endless cell u9 S).1)) ∧ ms_M LG ((r_X7_endless cell u9 S).2) hp' ∧ sm_M hp hp') (fun _ _ => False) := by
  refine qq_met (by decide +kernel) (Nat.le_of_ble_eq_true rfl) (Nat.le_of_ble_eq_true rfl) kc_X7_endless ?_
  show qq_Go _ hp 0 0 0 [(0, .ref 84), (1, .int cell), (2, .int u9)] [] _ _
  refine qq_aload_n dX7_endless_0 rfl 0 rfl ?_
  refine qq_iload_n dX7_endless_1 rfl 1 rfl ?_
  refine qq_callS (bc := 0) (bs := 0) (mc := 0) (ms := 0) (as := [.int cell]) (rest := [.ref 84]) dX7_endless_2 (mt_X7_isNoCell hp cell) rfl kl_X7_123 ks_X7_isNoCell ki_X7 kc_X7_isNoCell kd_X7_isNoCell rfl (by decide) (by decide) (Nat.le_of_ble_eq_true rfl) (fun v hp' hv _ _ => ?_) (fun E hp' zx _ _ => zx.elim)
  obtain ⟨rfl, rfl⟩ := hv
  show qq_Go _ hp 0 0 5 [(0, .ref 84), (1, .int cell), (2, .int u9)] [.int (f_X7_isNoCell cell), .ref 84] _ _
  refine qq_iconst (v := 0) dX7_endless_5 (by decide) ?_
  refine qq_callV (bc := 0) (bs := 0) (mc := 0) (ms := 0) (o := 84) (ci := 4) (N := 11) (T := TX7) (as := [.int (f_X7_isNoCell cell), .int 0]) (rest := []) dX7_endless_6 hS.2.2.1 (by decide) rfl (mt_X7_isRefused hp S hS (f_X7_isNoCell cell) (0 : Int32) ) rfl kl_X7_126 kn_X7_isRefused ke_X7_isRefused ki_X7 kc_X7_isRefused kd_X7_isRefused rfl (by decide) (by decide) (Nat.le_of_ble_eq_true rfl) (fun v hp1 hv _ _ => ?_) (fun E hp' zx _ _ => zx.elim)
  obtain ⟨rfl, hS1, sM1⟩ := hv
  show qq_Go _ hp1 0 0 9 [(0, .ref 84), (1, .int cell), (2, .int u9)] [.int ((r_X7_isRefused (f_X7_isNoCell cell) (0 : Int32) S).1)] _ _
  refine qq_if_eq (tgt := 16) dX7_endless_9 (by decide) (fun zc1 => ?_) (fun zc1 => ?_)
  · refine qq_aload_n dX7_endless_16 rfl 0 rfl ?_
    refine qq_iload_n dX7_endless_17 rfl 1 rfl ?_
    refine qq_iconst (v := 1) dX7_endless_18 (by decide) ?_
    refine qq_iconst (v := 0) dX7_endless_19 (by decide) ?_
    refine qq_iload_n dX7_endless_20 rfl 2 rfl ?_
    refine qq_callV (bc := 0) (bs := 0) (mc := 0) (ms := 0) (o := 84) (ci := 4) (N := 11) (T := TX7) (as := [.int cell, .int 1, .int 0, .int u9]) (rest := []) dX7_endless_21 hS1.2.2.1 (by decide) rfl (mt_X7_come hp1 ((r_X7_isRefused (f_X7_isNoCell cell) (0 : Int32) S).2) hS1 cell (1 : Int32) (0 : Int32) u9 (by first | assumption | exact ⟨by assumption, by assumption⟩ | exact qm_in8 (by assumption) (by assumption) | exact ⟨by assumption, qm_len (by assumption)⟩ | exact qm_in8d (by assumption) (by assumption) | exact qx_cell (qx_ref (by assumption)) | decide)) rfl kl_X7_130 kn_X7_come ke_X7_come ki_X7 kc_X7_come kd_X7_come rfl (by decide) (by decide) (Nat.le_of_ble_eq_true rfl) (fun v hp2 hv _ _ => ?_) (fun E hp' zx _ _ => zx.elim)
    obtain ⟨rfl, hS2, sM2⟩ := hv
    show qq_Go _ hp2 0 0 24 [(0, .ref 84), (1, .int cell), (2, .int u9)] [.int ((r_X7_come cell (1 : Int32) (0 : Int32) u9 ((r_X7_isRefused (f_X7_isNoCell cell) (0 : Int32) S).2)).1)] _ _
    have ze : r_X7_endless cell u9 S = ((r_X7_come cell (1 : Int32) (0 : Int32) u9 ((r_X7_isRefused (f_X7_isNoCell cell) (0 : Int32) S).2)).1, (r_X7_come cell (1 : Int32) (0 : Int32) u9 ((r_X7_isRefused (f_X7_isNoCell cell) (0 : Int32) S).2)).2) := by
      rw [r_X7_endless, if_pos zc1]
    exact qq_iret dX7_endless_24 rfl rfl ⟨by rw [ze], by rw [ze]; exact hS2, (smM_t sM1 sM2)⟩
  · refine qq_iconst (v := 0) dX7_endless_12 (by decide) ?_
    refine qq_goto (tgt := 24) dX7_endless_13 (by decide) ?_
    have ze : r_X7_endless cell u9 S = (0, (r_X7_isRefused (f_X7_isNoCell cell) (0 : Int32) S).2) := by
      rw [r_X7_endless, if_neg zc1]
    exact qq_iret dX7_endless_24 rfl rfl ⟨by rw [ze], by rw [ze]; exact hS1, sM1⟩
def r_X7_kind (cell : Int32) (S : sM) : Int32 × sM := if ((r_X7_isRefused (f_X7_isNoCell cell) (0 : Int32) S).1) = 0 then (((r_X7_isRefused (f_X7_isNoCell cell) (0 : Int32) S).2).1 cell.toNatClampNeg, (r_X7_isRefused (f_X7_isNoCell cell) (0 : Int32) S).2) else (0, (r_X7_isRefused (f_X7_isNoCell cell) (0 : Int32) S).2)
set_option maxRecDepth 4000 in
theorem mt_X7_kind {LG : Nat → qR} (hp : qq_H) (S : sM) (hS : ms_M LG S hp) (cell : Int32)  : qq_Mt mX7_kind [.ref 84, .int cell] hp 0 0 (fun v hp' => v = some (.int ((r_X7_kind cell S).1)) ∧ ms_M LG ((r_X7_kind cell S).2) hp' ∧ sm_M hp hp') (fun _ _ => False) := by
  refine qq_met (by decide +kernel) (Nat.le_of_ble_eq_true rfl) (Nat.le_of_ble_eq_true rfl) kc_X7_kind ?_
  show qq_Go _ hp 0 0 0 [(0, .ref 84), (1, .int cell)] [] _ _
  refine qq_aload_n dX7_kind_0 rfl 0 rfl ?_
  refine qq_iload_n dX7_kind_1 rfl 1 rfl ?_
  refine qq_callS (bc := 0) (bs := 0) (mc := 0) (ms := 0) (as := [.int cell]) (rest := [.ref 84]) dX7_kind_2 (mt_X7_isNoCell hp cell) rfl kl_X7_123 ks_X7_isNoCell ki_X7 kc_X7_isNoCell kd_X7_isNoCell rfl (by decide) (by decide) (Nat.le_of_ble_eq_true rfl) (fun v hp' hv _ _ => ?_) (fun E hp' zx _ _ => zx.elim)
  obtain ⟨rfl, rfl⟩ := hv
  show qq_Go _ hp 0 0 5 [(0, .ref 84), (1, .int cell)] [.int (f_X7_isNoCell cell), .ref 84] _ _
  refine qq_iconst (v := 0) dX7_kind_5 (by decide) ?_
  refine qq_callV (bc := 0) (bs := 0) (mc := 0) (ms := 0) (o := 84) (ci := 4) (N := 11) (T := TX7) (as := [.int (f_X7_isNoCell cell), .int 0]) (rest := []) dX7_kind_6 hS.2.2.1 (by decide) rfl (mt_X7_isRefused hp S hS (f_X7_isNoCell cell) (0 : Int32) ) rfl kl_X7_126 kn_X7_isRefused ke_X7_isRefused ki_X7 kc_X7_isRefused kd_X7_isRefused rfl (by decide) (by decide) (Nat.le_of_ble_eq_true rfl) (fun v hp1 hv _ _ => ?_) (fun E hp' zx _ _ => zx.elim)
  obtain ⟨rfl, hS1, sM1⟩ := hv
  show qq_Go _ hp1 0 0 9 [(0, .ref 84), (1, .int cell)] [.int ((r_X7_isRefused (f_X7_isNoCell cell) (0 : Int32) S).1)] _ _
  refine qq_if_eq (tgt := 16) dX7_kind_9 (by decide) (fun zc1 => ?_) (fun zc1 => ?_)
  · refine qq_aload_n dX7_kind_16 rfl 0 rfl ?_
    refine mx_get hS1 dX7_kind_17 4 (by decide) rfl kl_X7_28 ?_
    refine qq_iload_n dX7_kind_20 rfl 1 rfl ?_
    refine qq_iald dX7_kind_21 hS1.2.2.2.1 (by first | assumption | exact qm_in8 (by assumption) (by assumption) | exact qm_in8d (by assumption) (by assumption) | exact qx_cell (qx_ref (by assumption)) | decide) ?_
    have ze : r_X7_kind cell S = (((r_X7_isRefused (f_X7_isNoCell cell) (0 : Int32) S).2).1 cell.toNatClampNeg, (r_X7_isRefused (f_X7_isNoCell cell) (0 : Int32) S).2) := by
      rw [r_X7_kind, if_pos zc1]
    exact qq_iret dX7_kind_22 rfl rfl ⟨by rw [ze], by rw [ze]; exact hS1, sM1⟩
  · refine qq_iconst (v := 0) dX7_kind_12 (by decide) ?_
    refine qq_goto (tgt := 22) dX7_kind_13 (by decide) ?_
    have ze : r_X7_kind cell S = (0, (r_X7_isRefused (f_X7_isNoCell cell) (0 : Int32) S).2) := by
      rw [r_X7_kind, if_neg zc1]
    exact qq_iret dX7_kind_22 rfl rfl ⟨by rw [ze], by rw [ze]; exact hS1, sM1⟩