def r_X7_isBelow (cell : Int32)  (S : sM) : Int32 × sM := if ((r_X7_isRefused (f_X7_isNoCell cell) (0 : Int32) S).1) = 0 then if ((((r_X7_isRefused (f_X7_isNoCell cell) (0 : Int32) S).2).2.2.1) cell.toNatClampNeg) = 0 then if ((((r_X7_isRefused (f_X7_isNoCell cell) (0 : Int32) S).2).1) cell.toNatClampNeg) = 1 then (0, (r_X7_isRefused (f_X7_isNoCell cell) (0 : Int32) S).2) else if 0 ≤ ((r_X7_trueOf ((((r_X7_isRefused (f_X7_isNoCell cell) (0 : Int32) S).2).1) cell.toNatClampNeg) ((((r_X7_isRefused (f_X7_isNoCell cell) (0 : Int32) S).2).2.1) cell.toNatClampNeg) ((r_X7_isRefused (f_X7_isNoCell cell) (0 : Int32) S).2)) (10 : Int32).toNatClampNeg) then (0, (r_X7_isRefused (f_X7_isNoCell cell) (0 : Int32) S).2) else (1, (r_X7_isRefused (f_X7_isNoCell cell) (0 : Int32) S).2) else (1, (r_X7_isRefused (f_X7_isNoCell cell) (0 : Int32) S).2) else (0, (r_X7_isRefused (f_X7_isNoCell cell) (0 : Int32) S).2)
theorem bz_X7_isBelow (cell : Int32)  (S : sM) : (r_X7_isBelow cell S).1 = 0 ∨ (r_X7_isBelow cell S).1 = 1 := by
  unfold r_X7_isBelow
  exact (qm_i01 (qm_i01 (qm_i01 (Or.inl rfl) (qm_i01 (Or.inl rfl) (Or.inr rfl))) (Or.inr rfl)) (Or.inl rfl))
set_option maxRecDepth 4000 in
theorem mt_X7_isBelow (hp : qq_H) (A : qA) (S : sM) (hS : ms_M A S hp) (cell : Int32)     (zI : IM S) : qq_Mt mX7_isBelow [.ref 84, .int cell] hp 3 33 (fun v hp' => v = some (.int ((r_X7_isBelow cell S).1)) ∧ ms_M A ((r_X7_isBelow cell S).2) hp' ∧ fr A hp hp') (fun _ _ => False) := by
  refine qq_met pn_X7 (Nat.le_of_ble_eq_true rfl) (Nat.le_of_ble_eq_true rfl) kc_X7_isBelow ?_
  show qq_Go _ hp 3 33 0 [(0, .ref 84), (1, .int cell)] [] _ _
  refine qq_aload_n dX7_isBelow_0 rfl 0 rfl ?_
  refine qq_iload_n dX7_isBelow_1 rfl 1 rfl ?_
  refine qq_less (bc' := 3 + 0) (bs' := 33 + 0) (by omega) (by omega) ?_
  refine qq_callS (bc := 3) (bs := 33) (mc := 0) (ms := 0) (as := [.int cell]) (rest := [.ref 84]) dX7_isBelow_2 (mt_X7_isNoCell hp cell) rfl kl_X7_123 ks_X7_isNoCell ki_X7 kc_X7_isNoCell kd_X7_isNoCell rfl (by decide) (by decide) (Nat.le_of_ble_eq_true rfl) (fun v hp' hv _ _ => ?_) (fun E hp' zx _ _ => zx.elim)
  obtain ⟨rfl, rfl⟩ := hv
  show qq_Go _ hp (3) (33) 5 [(0, .ref 84), (1, .int cell)] [.int (f_X7_isNoCell cell), .ref 84] _ _
  refine qq_iconst (v := 0) dX7_isBelow_5 (by decide) ?_
  refine qq_less (bc' := 3 + 0) (bs' := 33 + 0) (by omega) (by omega) ?_
  refine qq_callV (bc := 3) (bs := 33) (mc := 0) (ms := 0) (o := 84) (ci := 4) (N := 11) (T := TX7) (as := [.int (f_X7_isNoCell cell), .int 0]) (rest := []) dX7_isBelow_6 hS.2.2.1 (by decide) rfl (mt_X7_isRefused hp A S hS (f_X7_isNoCell cell) (0 : Int32) ) rfl kl_X7_126 kn_X7_isRefused ke_X7_isRefused ki_X7 kc_X7_isRefused kd_X7_isRefused rfl (by decide) (by decide) (Nat.le_of_ble_eq_true rfl) (fun v hp1 hv _ _ => ?_) (fun E hp' zx _ _ => zx.elim)
  obtain ⟨rfl, hS1, fr1⟩ := hv
  show qq_Go _ hp1 (3) (33) 9 [(0, .ref 84), (1, .int cell)] [.int ((r_X7_isRefused (f_X7_isNoCell cell) (0 : Int32) S).1)] _ _
  refine qq_if_eq (tgt := 14) dX7_isBelow_9 (by decide) (fun zc1 => ?_) (fun zc1 => ?_)
  · have zv1 := qx_cell (qx_ref zc1)
    refine qq_aload_n dX7_isBelow_14 rfl 0 rfl ?_
    refine mx_get hS1 dX7_isBelow_15 6 (by decide) rfl kl_X7_34 ?_
    refine qq_iload_n dX7_isBelow_18 rfl 1 rfl ?_
    refine qq_zald dX7_isBelow_19 hS1.2.2.2.2.2.1 zv1 ?_
    refine qq_if_ne (tgt := 55) dX7_isBelow_20 (by decide) (fun zc2 => ?_) (fun zc2 => ?_)
    · refine qq_iconst (v := 1) dX7_isBelow_55 (by decide) ?_
      refine qq_goto (tgt := 60) dX7_isBelow_56 (by decide) ?_
      have ze : r_X7_isBelow cell S = (1, (r_X7_isRefused (f_X7_isNoCell cell) (0 : Int32) S).2) := by
        rw [r_X7_isBelow, if_pos zc1, if_neg zc2]
      exact qq_iret dX7_isBelow_60 rfl rfl ⟨by rw [ze], by rw [ze]; first | exact ms_pr hS1 | exact hS1, fr1⟩
    · refine qq_aload_n dX7_isBelow_23 rfl 0 rfl ?_
      refine mx_get hS1 dX7_isBelow_24 4 (by decide) rfl kl_X7_28 ?_
      refine qq_iload_n dX7_isBelow_27 rfl 1 rfl ?_
      refine qq_iald dX7_isBelow_28 hS1.2.2.2.1 zv1 ?_
      refine qq_iconst (v := 1) dX7_isBelow_29 (by decide) ?_
      refine qq_icmp_eq (tgt := 59) dX7_isBelow_30 (by decide) (fun zc3 => ?_) (fun zc3 => ?_)
      · refine qq_iconst (v := 0) dX7_isBelow_59 (by decide) ?_
        have ze : r_X7_isBelow cell S = (0, (r_X7_isRefused (f_X7_isNoCell cell) (0 : Int32) S).2) := by
          rw [r_X7_isBelow, if_pos zc1, if_pos zc2, if_pos zc3]
        exact qq_iret dX7_isBelow_60 rfl rfl ⟨by rw [ze], by rw [ze]; first | exact ms_pr hS1 | exact hS1, fr1⟩
      · refine qq_aload_n dX7_isBelow_33 rfl 0 rfl ?_
        refine qq_aload_n dX7_isBelow_34 rfl 0 rfl ?_
        refine mx_get hS1 dX7_isBelow_35 4 (by decide) rfl kl_X7_28 ?_
        refine qq_iload_n dX7_isBelow_38 rfl 1 rfl ?_
        refine qq_iald dX7_isBelow_39 hS1.2.2.2.1 zv1 ?_
        refine qq_aload_n dX7_isBelow_40 rfl 0 rfl ?_
        refine mx_get hS1 dX7_isBelow_41 5 (by decide) rfl kl_X7_31 ?_
        refine qq_iload_n dX7_isBelow_44 rfl 1 rfl ?_
        refine qq_iald dX7_isBelow_45 hS1.2.2.2.2.1 zv1 ?_
        refine qq_less (bc' := 0 + 3) (bs' := 0 + 33) (by omega) (by omega) ?_
        refine qq_callV (bc := 0) (bs := 0) (mc := 3) (ms := 33) (o := 84) (ci := 4) (N := 11) (T := TX7) (as := [.int ((((r_X7_isRefused (f_X7_isNoCell cell) (0 : Int32) S).2).1) cell.toNatClampNeg), .int ((((r_X7_isRefused (f_X7_isNoCell cell) (0 : Int32) S).2).2.1) cell.toNatClampNeg)]) (rest := []) dX7_isBelow_46 hS1.2.2.1 (by decide) rfl (mt_X7_trueOf hp1 A ((r_X7_isRefused (f_X7_isNoCell cell) (0 : Int32) S).2) hS1 ((((r_X7_isRefused (f_X7_isNoCell cell) (0 : Int32) S).2).1) cell.toNatClampNeg) ((((r_X7_isRefused (f_X7_isNoCell cell) (0 : Int32) S).2).2.1) cell.toNatClampNeg) (im_t (im_ref zI) zv1)) rfl kl_X7_88 kn_X7_trueOf ke_X7_trueOf ki_X7 kc_X7_trueOf kd_X7_trueOf rfl (by decide) (by decide) (Nat.le_of_ble_eq_true rfl) (fun v hp2 hv _ _ => ?_) (fun E hp' zx _ _ => zx.elim)
        obtain ⟨rj2, rfl, hS2, fr2, hr_n2, hl_n2⟩ := hv
        show qq_Go _ hp2 (0) (0) 49 [(0, .ref 84), (1, .int cell)] [.ref rj2] _ _
        refine qq_bipush (v := 10) dX7_isBelow_49 (by decide) ?_
        refine qq_iald dX7_isBelow_51 hr_n2 (vp_d (by decide)) ?_
        refine qq_if_ge (tgt := 59) dX7_isBelow_52 (by decide) (fun zc4 => ?_) (fun zc4 => ?_)
        · refine qq_iconst (v := 0) dX7_isBelow_59 (by decide) ?_
          have ze : r_X7_isBelow cell S = (0, (r_X7_isRefused (f_X7_isNoCell cell) (0 : Int32) S).2) := by
            rw [r_X7_isBelow, if_pos zc1, if_pos zc2, if_neg zc3, if_pos zc4]
          exact qq_iret dX7_isBelow_60 rfl rfl ⟨by rw [ze], by rw [ze]; first | exact ms_pr hS2 | exact hS2, (fr_t fr1 fr2)⟩
        · refine qq_iconst (v := 1) dX7_isBelow_55 (by decide) ?_
          refine qq_goto (tgt := 60) dX7_isBelow_56 (by decide) ?_
          have ze : r_X7_isBelow cell S = (1, (r_X7_isRefused (f_X7_isNoCell cell) (0 : Int32) S).2) := by
            rw [r_X7_isBelow, if_pos zc1, if_pos zc2, if_neg zc3, if_neg zc4]
          exact qq_iret dX7_isBelow_60 rfl rfl ⟨by rw [ze], by rw [ze]; first | exact ms_pr hS2 | exact hS2, (fr_t fr1 fr2)⟩
  · refine qq_iconst (v := 0) dX7_isBelow_12 (by decide) ?_
    have ze : r_X7_isBelow cell S = (0, (r_X7_isRefused (f_X7_isNoCell cell) (0 : Int32) S).2) := by
      rw [r_X7_isBelow, if_neg zc1]
    exact qq_iret dX7_isBelow_13 rfl rfl ⟨by rw [ze], by rw [ze]; first | exact ms_pr hS1 | exact hS1, fr1⟩
def r_X7_whole (cell : Int32) (k9 : Int32)  (S : sM) : Int32 × sM := if (f_X7_isIn k9 (-62) 90) = 0 then if ((r_X7_isRefused (f_X7_isNoCell cell) (1 : Int32) S).1) = 0 then (0, (r_X7_isRefused (f_X7_isNoCell cell) (1 : Int32) S).2) else (0, (r_X7_isRefused (f_X7_isNoCell cell) (1 : Int32) S).2) else if ((r_X7_isRefused (f_X7_isNoCell cell) (0 : Int32) S).1) = 0 then if (r_X7_isUntold cell ((r_X7_isRefused (f_X7_isNoCell cell) (0 : Int32) S).2)) = 0 then if (r_X7_isInt (256 - k9) (r_X7_trueOf ((((r_X7_isRefused (f_X7_isNoCell cell) (0 : Int32) S).2).1) cell.toNatClampNeg) ((((r_X7_isRefused (f_X7_isNoCell cell) (0 : Int32) S).2).2.1) cell.toNatClampNeg) ((r_X7_isRefused (f_X7_isNoCell cell) (0 : Int32) S).2))) = 0 then (0, (((r_X7_isRefused (f_X7_isNoCell cell) (0 : Int32) S).2).1, ((r_X7_isRefused (f_X7_isNoCell cell) (0 : Int32) S).2).2.1, ((r_X7_isRefused (f_X7_isNoCell cell) (0 : Int32) S).2).2.2.1, ((r_X7_isRefused (f_X7_isNoCell cell) (0 : Int32) S).2).2.2.2.1, ((r_X7_isRefused (f_X7_isNoCell cell) (0 : Int32) S).2).2.2.2.2.1, ((r_X7_isRefused (f_X7_isNoCell cell) (0 : Int32) S).2).2.2.2.2.2.1, 3)) else (r_X7_digitsFrom (256 - k9) (r_X7_trueOf ((((r_X7_isRefused (f_X7_isNoCell cell) (0 : Int32) S).2).1) cell.toNatClampNeg) ((((r_X7_isRefused (f_X7_isNoCell cell) (0 : Int32) S).2).2.1) cell.toNatClampNeg) ((r_X7_isRefused (f_X7_isNoCell cell) (0 : Int32) S).2)), (r_X7_isRefused (f_X7_isNoCell cell) (0 : Int32) S).2) else (0, (((r_X7_isRefused (f_X7_isNoCell cell) (0 : Int32) S).2).1, ((r_X7_isRefused (f_X7_isNoCell cell) (0 : Int32) S).2).2.1, ((r_X7_isRefused (f_X7_isNoCell cell) (0 : Int32) S).2).2.2.1, ((r_X7_isRefused (f_X7_isNoCell cell) (0 : Int32) S).2).2.2.2.1, ((r_X7_isRefused (f_X7_isNoCell cell) (0 : Int32) S).2).2.2.2.2.1, ((r_X7_isRefused (f_X7_isNoCell cell) (0 : Int32) S).2).2.2.2.2.2.1, 3)) else (0, (r_X7_isRefused (f_X7_isNoCell cell) (0 : Int32) S).2)
set_option maxRecDepth 4000 in
theorem mt_X7_whole (hp : qq_H) (A : qA) (S : sM) (hS : ms_M A S hp) (cell : Int32) (k9 : Int32)     (zI : IM S) : qq_Mt mX7_whole [.ref 84, .int cell, .int k9] hp 3 33 (fun v hp' => v = some (.int ((r_X7_whole cell k9 S).1)) ∧ ms_M A ((r_X7_whole cell k9 S).2) hp' ∧ fr A hp hp') (fun _ _ => False) := by
  refine qq_met pn_X7 (Nat.le_of_ble_eq_true rfl) (Nat.le_of_ble_eq_true rfl) kc_X7_whole ?_
  show qq_Go _ hp 3 33 0 [(0, .ref 84), (1, .int cell), (2, .int k9)] [] _ _
  refine qq_aload_n dX7_whole_0 rfl 0 rfl ?_
  refine qq_iload_n dX7_whole_1 rfl 1 rfl ?_
  refine qq_less (bc' := 3 + 0) (bs' := 33 + 0) (by omega) (by omega) ?_
  refine qq_callS (bc := 3) (bs := 33) (mc := 0) (ms := 0) (as := [.int cell]) (rest := [.ref 84]) dX7_whole_2 (mt_X7_isNoCell hp cell) rfl kl_X7_123 ks_X7_isNoCell ki_X7 kc_X7_isNoCell kd_X7_isNoCell rfl (by decide) (by decide) (Nat.le_of_ble_eq_true rfl) (fun v hp' hv _ _ => ?_) (fun E hp' zx _ _ => zx.elim)
  obtain ⟨rfl, rfl⟩ := hv
  show qq_Go _ hp (3) (33) 5 [(0, .ref 84), (1, .int cell), (2, .int k9)] [.int (f_X7_isNoCell cell), .ref 84] _ _
  refine qq_iload_n dX7_whole_5 rfl 2 rfl ?_
  refine qq_bipush (v := (-62)) dX7_whole_6 (by decide) ?_
  refine qq_bipush (v := 90) dX7_whole_8 (by decide) ?_
  refine qq_less (bc' := 3 + 0) (bs' := 33 + 0) (by omega) (by omega) ?_
  refine qq_callS (bc := 3) (bs := 33) (mc := 0) (ms := 0) (as := [.int k9, .int (-62), .int 90]) (rest := [.int (f_X7_isNoCell cell), .ref 84]) dX7_whole_10 (mt_X7_isIn hp k9 (-62 : Int32) (90 : Int32)) rfl kl_X7_113 ks_X7_isIn ki_X7 kc_X7_isIn kd_X7_isIn rfl (by decide) (by decide) (Nat.le_of_ble_eq_true rfl) (fun v hp' hv _ _ => ?_) (fun E hp' zx _ _ => zx.elim)
  obtain ⟨rfl, rfl⟩ := hv
  show qq_Go _ hp (3) (33) 13 [(0, .ref 84), (1, .int cell), (2, .int k9)] [.int (f_X7_isIn k9 (-62) 90), .int (f_X7_isNoCell cell), .ref 84] _ _
  refine qq_if_ne (tgt := 20) dX7_whole_13 (by decide) (fun zc1 => ?_) (fun zc1 => ?_)
  · have zp1 := qx_pl zc1
    refine qq_iconst (v := 0) dX7_whole_20 (by decide) ?_
    refine qq_less (bc' := 3 + 0) (bs' := 33 + 0) (by omega) (by omega) ?_
    refine qq_callV (bc := 3) (bs := 33) (mc := 0) (ms := 0) (o := 84) (ci := 4) (N := 11) (T := TX7) (as := [.int (f_X7_isNoCell cell), .int 0]) (rest := []) dX7_whole_21 hS.2.2.1 (by decide) rfl (mt_X7_isRefused hp A S hS (f_X7_isNoCell cell) (0 : Int32) ) rfl kl_X7_126 kn_X7_isRefused ke_X7_isRefused ki_X7 kc_X7_isRefused kd_X7_isRefused rfl (by decide) (by decide) (Nat.le_of_ble_eq_true rfl) (fun v hp1 hv _ _ => ?_) (fun E hp' zx _ _ => zx.elim)
    obtain ⟨rfl, hS1, fr1⟩ := hv
    show qq_Go _ hp1 (3) (33) 24 [(0, .ref 84), (1, .int cell), (2, .int k9)] [.int ((r_X7_isRefused (f_X7_isNoCell cell) (0 : Int32) S).1)] _ _
    refine qq_if_eq (tgt := 29) dX7_whole_24 (by decide) (fun zc2 => ?_) (fun zc2 => ?_)
    · have zv2 := qx_cell (qx_ref zc2)
      refine qq_aload_n dX7_whole_29 rfl 0 rfl ?_
      refine qq_iload_n dX7_whole_30 rfl 1 rfl ?_
      refine qq_less (bc' := 3 + 0) (bs' := 33 + 0) (by omega) (by omega) ?_
      refine qq_callV (bc := 3) (bs := 33) (mc := 0) (ms := 0) (o := 84) (ci := 4) (N := 11) (T := TX7) (as := [.int cell]) (rest := []) dX7_whole_31 hS1.2.2.1 (by decide) rfl (mt_X7_isUntold hp1 A ((r_X7_isRefused (f_X7_isNoCell cell) (0 : Int32) S).2) hS1 cell zv2) rfl kl_X7_174 kn_X7_isUntold ke_X7_isUntold ki_X7 kc_X7_isUntold kd_X7_isUntold rfl (by decide) (by decide) (Nat.le_of_ble_eq_true rfl) (fun v hp' hv _ _ => ?_) (fun E hp' zx _ _ => zx.elim)
      obtain ⟨rfl, rfl⟩ := hv
      show qq_Go _ hp1 (3) (33) 34 [(0, .ref 84), (1, .int cell), (2, .int k9)] [.int (r_X7_isUntold cell ((r_X7_isRefused (f_X7_isNoCell cell) (0 : Int32) S).2))] _ _
      refine qq_if_eq (tgt := 41) dX7_whole_34 (by decide) (fun zc3 => ?_) (fun zc3 => ?_)
      · refine qq_aload_n dX7_whole_41 rfl 0 rfl ?_
        refine qq_aload_n dX7_whole_42 rfl 0 rfl ?_
        refine mx_get hS1 dX7_whole_43 4 (by decide) rfl kl_X7_28 ?_
        refine qq_iload_n dX7_whole_46 rfl 1 rfl ?_
        refine qq_iald dX7_whole_47 hS1.2.2.2.1 zv2 ?_
        refine qq_aload_n dX7_whole_48 rfl 0 rfl ?_
        refine mx_get hS1 dX7_whole_49 5 (by decide) rfl kl_X7_31 ?_
        refine qq_iload_n dX7_whole_52 rfl 1 rfl ?_
        refine qq_iald dX7_whole_53 hS1.2.2.2.2.1 zv2 ?_
        refine qq_less (bc' := 0 + 3) (bs' := 0 + 33) (by omega) (by omega) ?_
        refine qq_callV (bc := 0) (bs := 0) (mc := 3) (ms := 33) (o := 84) (ci := 4) (N := 11) (T := TX7) (as := [.int ((((r_X7_isRefused (f_X7_isNoCell cell) (0 : Int32) S).2).1) cell.toNatClampNeg), .int ((((r_X7_isRefused (f_X7_isNoCell cell) (0 : Int32) S).2).2.1) cell.toNatClampNeg)]) (rest := []) dX7_whole_54 hS1.2.2.1 (by decide) rfl (mt_X7_trueOf hp1 A ((r_X7_isRefused (f_X7_isNoCell cell) (0 : Int32) S).2) hS1 ((((r_X7_isRefused (f_X7_isNoCell cell) (0 : Int32) S).2).1) cell.toNatClampNeg) ((((r_X7_isRefused (f_X7_isNoCell cell) (0 : Int32) S).2).2.1) cell.toNatClampNeg) (im_t (im_ref zI) zv2)) rfl kl_X7_88 kn_X7_trueOf ke_X7_trueOf ki_X7 kc_X7_trueOf kd_X7_trueOf rfl (by decide) (by decide) (Nat.le_of_ble_eq_true rfl) (fun v hp2 hv _ _ => ?_) (fun E hp' zx _ _ => zx.elim)
        obtain ⟨rj2, rfl, hS2, fr2, hr_n2, hl_n2⟩ := hv
        show qq_Go _ hp2 (0) (0) 57 [(0, .ref 84), (1, .int cell), (2, .int k9)] [.ref rj2] _ _
        refine qq_astore_n (loc' := [(0, .ref 84), (1, .int cell), (2, .int k9), (3, .ref rj2)]) dX7_whole_57 rfl [1, 2, 3, 0] (Nat.le_of_ble_eq_true rfl) rfl ?_
        refine qq_aload_n dX7_whole_58 rfl 3 rfl ?_
        refine qq_ifnull dX7_whole_59 ?_
        refine qq_aload_n dX7_whole_62 rfl 3 rfl ?_
        refine qq_sipush (v := 256) dX7_whole_63 (by decide) ?_
        refine qq_iload_n dX7_whole_66 rfl 2 rfl ?_
        refine qq_isub dX7_whole_67 ?_
        refine qq_less (bc' := 0 + 0) (bs' := 0 + 0) (by omega) (by omega) ?_
        refine qq_callS (bc := 0) (bs := 0) (mc := 0) (ms := 0) (as := [.ref rj2, .int (256 - k9)]) (rest := []) dX7_whole_68 (mt_X7_isInt hp2 (256 - k9) rj2 (r_X7_trueOf ((((r_X7_isRefused (f_X7_isNoCell cell) (0 : Int32) S).2).1) cell.toNatClampNeg) ((((r_X7_isRefused (f_X7_isNoCell cell) (0 : Int32) S).2).2.1) cell.toNatClampNeg) ((r_X7_isRefused (f_X7_isNoCell cell) (0 : Int32) S).2)) hr_n2 zp1.1 zp1.2) rfl kl_X7_177 ks_X7_isInt ki_X7 kc_X7_isInt kd_X7_isInt rfl (by decide) (by decide) (Nat.le_of_ble_eq_true rfl) (fun v hp' hv _ _ => ?_) (fun E hp' zx _ _ => zx.elim)
        obtain ⟨rfl, rfl⟩ := hv
        show qq_Go _ hp2 (0) (0) 71 [(0, .ref 84), (1, .int cell), (2, .int k9), (3, .ref rj2)] [.int (r_X7_isInt (256 - k9) (r_X7_trueOf ((((r_X7_isRefused (f_X7_isNoCell cell) (0 : Int32) S).2).1) cell.toNatClampNeg) ((((r_X7_isRefused (f_X7_isNoCell cell) (0 : Int32) S).2).2.1) cell.toNatClampNeg) ((r_X7_isRefused (f_X7_isNoCell cell) (0 : Int32) S).2)))] _ _
        refine qq_if_ne (tgt := 81) dX7_whole_71 (by decide) (fun zc4 => ?_) (fun zc4 => ?_)
        · refine qq_aload_n dX7_whole_81 rfl 3 rfl ?_
          refine qq_sipush (v := 256) dX7_whole_82 (by decide) ?_
          refine qq_iload_n dX7_whole_85 rfl 2 rfl ?_
          refine qq_isub dX7_whole_86 ?_
          refine qq_less (bc' := 0 + 0) (bs' := 0 + 0) (by omega) (by omega) ?_
          refine qq_callS (bc := 0) (bs := 0) (mc := 0) (ms := 0) (as := [.ref rj2, .int (256 - k9)]) (rest := []) dX7_whole_87 (mt_X7_digitsFrom hp2 (256 - k9) rj2 (r_X7_trueOf ((((r_X7_isRefused (f_X7_isNoCell cell) (0 : Int32) S).2).1) cell.toNatClampNeg) ((((r_X7_isRefused (f_X7_isNoCell cell) (0 : Int32) S).2).2.1) cell.toNatClampNeg) ((r_X7_isRefused (f_X7_isNoCell cell) (0 : Int32) S).2)) hr_n2 zp1.1 zp1.2) rfl kl_X7_181 ks_X7_digitsFrom ki_X7 kc_X7_digitsFrom kd_X7_digitsFrom rfl (by decide) (by decide) (Nat.le_of_ble_eq_true rfl) (fun v hp' hv _ _ => ?_) (fun E hp' zx _ _ => zx.elim)
          obtain ⟨rfl, rfl⟩ := hv
          show qq_Go _ hp2 (0) (0) 90 [(0, .ref 84), (1, .int cell), (2, .int k9), (3, .ref rj2)] [.int (r_X7_digitsFrom (256 - k9) (r_X7_trueOf ((((r_X7_isRefused (f_X7_isNoCell cell) (0 : Int32) S).2).1) cell.toNatClampNeg) ((((r_X7_isRefused (f_X7_isNoCell cell) (0 : Int32) S).2).2.1) cell.toNatClampNeg) ((r_X7_isRefused (f_X7_isNoCell cell) (0 : Int32) S).2)))] _ _
          have ze : r_X7_whole cell k9 S = (r_X7_digitsFrom (256 - k9) (r_X7_trueOf ((((r_X7_isRefused (f_X7_isNoCell cell) (0 : Int32) S).2).1) cell.toNatClampNeg) ((((r_X7_isRefused (f_X7_isNoCell cell) (0 : Int32) S).2).2.1) cell.toNatClampNeg) ((r_X7_isRefused (f_X7_isNoCell cell) (0 : Int32) S).2)), (r_X7_isRefused (f_X7_isNoCell cell) (0 : Int32) S).2) := by
            rw [r_X7_whole, if_neg zc1, if_pos zc2, if_pos zc3, if_neg zc4]
          exact qq_iret dX7_whole_90 rfl rfl ⟨by rw [ze], by rw [ze]; first | exact ms_pr hS2 | exact hS2, (fr_t fr1 fr2)⟩
        · refine qq_aload_n dX7_whole_74 rfl 0 rfl ?_
          refine qq_iconst (v := 3) dX7_whole_75 (by decide) ?_
          refine mx_put10 hS2 dX7_whole_76 kl_X7_50 (fun hp3 hS3 fq3 => ?_)
          have fr3 := fq3 A
          replace hS3 : ms_M A (((r_X7_isRefused (f_X7_isNoCell cell) (0 : Int32) S).2).1, ((r_X7_isRefused (f_X7_isNoCell cell) (0 : Int32) S).2).2.1, ((r_X7_isRefused (f_X7_isNoCell cell) (0 : Int32) S).2).2.2.1, ((r_X7_isRefused (f_X7_isNoCell cell) (0 : Int32) S).2).2.2.2.1, ((r_X7_isRefused (f_X7_isNoCell cell) (0 : Int32) S).2).2.2.2.2.1, ((r_X7_isRefused (f_X7_isNoCell cell) (0 : Int32) S).2).2.2.2.2.2.1, 3) hp3 := hS3
          have hr_3 := fr_w fr3 hS2 hl_n2 hr_n2 (by decide)
          have hl_3 := fr_l fr3 hl_n2
          refine qq_iconst (v := 0) dX7_whole_79 (by decide) ?_
          have ze : r_X7_whole cell k9 S = (0, (((r_X7_isRefused (f_X7_isNoCell cell) (0 : Int32) S).2).1, ((r_X7_isRefused (f_X7_isNoCell cell) (0 : Int32) S).2).2.1, ((r_X7_isRefused (f_X7_isNoCell cell) (0 : Int32) S).2).2.2.1, ((r_X7_isRefused (f_X7_isNoCell cell) (0 : Int32) S).2).2.2.2.1, ((r_X7_isRefused (f_X7_isNoCell cell) (0 : Int32) S).2).2.2.2.2.1, ((r_X7_isRefused (f_X7_isNoCell cell) (0 : Int32) S).2).2.2.2.2.2.1, 3)) := by
            rw [r_X7_whole, if_neg zc1, if_pos zc2, if_pos zc3, if_pos zc4]
          exact qq_iret dX7_whole_80 rfl rfl ⟨by rw [ze], by rw [ze]; first | exact ms_pr hS3 | exact hS3, (fr_t (fr_t fr1 fr2) fr3)⟩
      · refine qq_null dX7_whole_37 ?_
        refine qq_goto (tgt := 57) dX7_whole_38 (by decide) ?_
        refine qq_astore_nN (loc' := [(0, .ref 84), (1, .int cell), (2, .int k9), (3, .null)]) dX7_whole_57 rfl [1, 2, 3, 0] (Nat.le_of_ble_eq_true rfl) rfl ?_
        refine qq_aload_nN dX7_whole_58 rfl 3 rfl ?_
        refine qq_ifnullN (tgt := 74) dX7_whole_59 (by decide) ?_
        refine qq_aload_n dX7_whole_74 rfl 0 rfl ?_
        refine qq_iconst (v := 3) dX7_whole_75 (by decide) ?_
        refine mx_put10 hS1 dX7_whole_76 kl_X7_50 (fun hp4 hS4 fq4 => ?_)
        have fr4 := fq4 A
        replace hS4 : ms_M A (((r_X7_isRefused (f_X7_isNoCell cell) (0 : Int32) S).2).1, ((r_X7_isRefused (f_X7_isNoCell cell) (0 : Int32) S).2).2.1, ((r_X7_isRefused (f_X7_isNoCell cell) (0 : Int32) S).2).2.2.1, ((r_X7_isRefused (f_X7_isNoCell cell) (0 : Int32) S).2).2.2.2.1, ((r_X7_isRefused (f_X7_isNoCell cell) (0 : Int32) S).2).2.2.2.2.1, ((r_X7_isRefused (f_X7_isNoCell cell) (0 : Int32) S).2).2.2.2.2.2.1, 3) hp4 := hS4
        refine qq_iconst (v := 0) dX7_whole_79 (by decide) ?_
        have ze : r_X7_whole cell k9 S = (0, (((r_X7_isRefused (f_X7_isNoCell cell) (0 : Int32) S).2).1, ((r_X7_isRefused (f_X7_isNoCell cell) (0 : Int32) S).2).2.1, ((r_X7_isRefused (f_X7_isNoCell cell) (0 : Int32) S).2).2.2.1, ((r_X7_isRefused (f_X7_isNoCell cell) (0 : Int32) S).2).2.2.2.1, ((r_X7_isRefused (f_X7_isNoCell cell) (0 : Int32) S).2).2.2.2.2.1, ((r_X7_isRefused (f_X7_isNoCell cell) (0 : Int32) S).2).2.2.2.2.2.1, 3)) := by
          rw [r_X7_whole, if_neg zc1, if_pos zc2, if_neg zc3]
        exact qq_iret dX7_whole_80 rfl rfl ⟨by rw [ze], by rw [ze]; first | exact ms_pr hS4 | exact hS4, (fr_t fr1 fr4)⟩
    · refine qq_iconst (v := 0) dX7_whole_27 (by decide) ?_
      have ze : r_X7_whole cell k9 S = (0, (r_X7_isRefused (f_X7_isNoCell cell) (0 : Int32) S).2) := by
        rw [r_X7_whole, if_neg zc1, if_neg zc2]
      exact qq_iret dX7_whole_28 rfl rfl ⟨by rw [ze], by rw [ze]; first | exact ms_pr hS1 | exact hS1, fr1⟩
  · refine qq_iconst (v := 1) dX7_whole_16 (by decide) ?_
    refine qq_goto (tgt := 21) dX7_whole_17 (by decide) ?_
    refine qq_less (bc' := 3 + 0) (bs' := 33 + 0) (by omega) (by omega) ?_
    refine qq_callV (bc := 3) (bs := 33) (mc := 0) (ms := 0) (o := 84) (ci := 4) (N := 11) (T := TX7) (as := [.int (f_X7_isNoCell cell), .int 1]) (rest := []) dX7_whole_21 hS.2.2.1 (by decide) rfl (mt_X7_isRefused hp A S hS (f_X7_isNoCell cell) (1 : Int32) ) rfl kl_X7_126 kn_X7_isRefused ke_X7_isRefused ki_X7 kc_X7_isRefused kd_X7_isRefused rfl (by decide) (by decide) (Nat.le_of_ble_eq_true rfl) (fun v hp5 hv _ _ => ?_) (fun E hp' zx _ _ => zx.elim)
    obtain ⟨rfl, hS5, fr5⟩ := hv
    show qq_Go _ hp5 (3) (33) 24 [(0, .ref 84), (1, .int cell), (2, .int k9)] [.int ((r_X7_isRefused (f_X7_isNoCell cell) (1 : Int32) S).1)] _ _
    refine qq_if_eq (tgt := 29) dX7_whole_24 (by decide) (fun zc5 => ?_) (fun zc5 => ?_)
    · exact absurd zc5 qx_2
    · refine qq_iconst (v := 0) dX7_whole_27 (by decide) ?_
      have ze : r_X7_whole cell k9 S = (0, (r_X7_isRefused (f_X7_isNoCell cell) (1 : Int32) S).2) := by
        rw [r_X7_whole, if_pos zc1, if_neg zc5]
      exact qq_iret dX7_whole_28 rfl rfl ⟨by rw [ze], by rw [ze]; first | exact ms_pr hS5 | exact hS5, fr5⟩
def r_X7_height (cell : Int32)  (S : sM) : Int32 × sM := if ((r_X7_isLow cell S).1) = 0 then ((r_X7_placeOf (r_X7_sizeOf (r_X7_trueOf ((((r_X7_isLow cell S).2).1) cell.toNatClampNeg) ((((r_X7_isLow cell S).2).2.1) cell.toNatClampNeg) ((r_X7_isLow cell S).2)) ((r_X7_isLow cell S).2)) ((r_X7_isLow cell S).2)) - 256, (r_X7_isLow cell S).2) else (0, (r_X7_isLow cell S).2)
set_option maxRecDepth 4000 in
theorem mt_X7_height (hp : qq_H) (A : qA) (S : sM) (hS : ms_M A S hp) (cell : Int32)     (zI : IM S) (zH : IH S) : qq_Mt mX7_height [.ref 84, .int cell] hp 5 55 (fun v hp' => v = some (.int ((r_X7_height cell S).1)) ∧ ms_M A ((r_X7_height cell S).2) hp' ∧ fr A hp hp') (fun _ _ => False) := by
  refine qq_met pn_X7 (Nat.le_of_ble_eq_true rfl) (Nat.le_of_ble_eq_true rfl) kc_X7_height ?_
  show qq_Go _ hp 5 55 0 [(0, .ref 84), (1, .int cell)] [] _ _
  refine qq_aload_n dX7_height_0 rfl 0 rfl ?_
  refine qq_iload_n dX7_height_1 rfl 1 rfl ?_
  refine qq_less (bc' := 5 + 0) (bs' := 55 + 0) (by omega) (by omega) ?_
  refine qq_callV (bc := 5) (bs := 55) (mc := 0) (ms := 0) (o := 84) (ci := 4) (N := 11) (T := TX7) (as := [.int cell]) (rest := []) dX7_height_2 hS.2.2.1 (by decide) rfl (mt_X7_isLow hp A S hS cell ) rfl kl_X7_184 kn_X7_isLow ke_X7_isLow ki_X7 kc_X7_isLow kd_X7_isLow rfl (by decide) (by decide) (Nat.le_of_ble_eq_true rfl) (fun v hp1 hv _ _ => ?_) (fun E hp' zx _ _ => zx.elim)
  obtain ⟨rfl, hS1, fr1⟩ := hv
  show qq_Go _ hp1 (5) (55) 5 [(0, .ref 84), (1, .int cell)] [.int ((r_X7_isLow cell S).1)] _ _
  refine qq_if_eq (tgt := 12) dX7_height_5 (by decide) (fun zc1 => ?_) (fun zc1 => ?_)
  · have zv1 := qx_isLow zc1
    refine qq_aload_n dX7_height_12 rfl 0 rfl ?_
    refine qq_aload_n dX7_height_13 rfl 0 rfl ?_
    refine mx_get hS1 dX7_height_14 4 (by decide) rfl kl_X7_28 ?_
    refine qq_iload_n dX7_height_17 rfl 1 rfl ?_
    refine qq_iald dX7_height_18 hS1.2.2.2.1 zv1 ?_
    refine qq_aload_n dX7_height_19 rfl 0 rfl ?_
    refine mx_get hS1 dX7_height_20 5 (by decide) rfl kl_X7_31 ?_
    refine qq_iload_n dX7_height_23 rfl 1 rfl ?_
    refine qq_iald dX7_height_24 hS1.2.2.2.2.1 zv1 ?_
    refine qq_less (bc' := 2 + 3) (bs' := 22 + 33) (by omega) (by omega) ?_
    refine qq_callV (bc := 2) (bs := 22) (mc := 3) (ms := 33) (o := 84) (ci := 4) (N := 11) (T := TX7) (as := [.int ((((r_X7_isLow cell S).2).1) cell.toNatClampNeg), .int ((((r_X7_isLow cell S).2).2.1) cell.toNatClampNeg)]) (rest := []) dX7_height_25 hS1.2.2.1 (by decide) rfl (mt_X7_trueOf hp1 A ((r_X7_isLow cell S).2) hS1 ((((r_X7_isLow cell S).2).1) cell.toNatClampNeg) ((((r_X7_isLow cell S).2).2.1) cell.toNatClampNeg) (im_t (im_low zI) zv1)) rfl kl_X7_88 kn_X7_trueOf ke_X7_trueOf ki_X7 kc_X7_trueOf kd_X7_trueOf rfl (by decide) (by decide) (Nat.le_of_ble_eq_true rfl) (fun v hp2 hv _ _ => ?_) (fun E hp' zx _ _ => zx.elim)
    obtain ⟨rj2, rfl, hS2, fr2, hr_n2, hl_n2⟩ := hv
    show qq_Go _ hp2 (2) (22) 28 [(0, .ref 84), (1, .int cell)] [.ref rj2] _ _
    refine qq_less (bc' := 0 + 2) (bs' := 0 + 22) (by omega) (by omega) ?_
    refine qq_callS (bc := 0) (bs := 0) (mc := 2) (ms := 22) (as := [.ref rj2]) (rest := []) dX7_height_28 (mt_X7_sizeOf hp2 A ((r_X7_isLow cell S).2) hS2 rj2 (r_X7_trueOf ((((r_X7_isLow cell S).2).1) cell.toNatClampNeg) ((((r_X7_isLow cell S).2).2.1) cell.toNatClampNeg) ((r_X7_isLow cell S).2)) hr_n2 hl_n2 ) rfl kl_X7_187 ks_X7_sizeOf ki_X7 kc_X7_sizeOf kd_X7_sizeOf rfl (by decide) (by decide) (Nat.le_of_ble_eq_true rfl) (fun v hp3 hv _ _ => ?_) (fun E hp' zx _ _ => zx.elim)
    obtain ⟨rj3, rfl, hS3, fr3, hr_n3, hl_n3⟩ := hv
    have hr_2 := fr_w fr3 hS2 hl_n2 hr_n2 (by decide)
    have hl_2 := fr_l fr3 hl_n2
    show qq_Go _ hp3 (0) (0) 31 [(0, .ref 84), (1, .int cell)] [.ref rj3] _ _
    refine qq_less (bc' := 0 + 0) (bs' := 0 + 0) (by omega) (by omega) ?_
    refine qq_callS (bc := 0) (bs := 0) (mc := 0) (ms := 0) (as := [.ref rj3]) (rest := []) dX7_height_31 (mt_X7_placeOf hp3 A ((r_X7_isLow cell S).2) hS3 rj3 (r_X7_sizeOf (r_X7_trueOf ((((r_X7_isLow cell S).2).1) cell.toNatClampNeg) ((((r_X7_isLow cell S).2).2.1) cell.toNatClampNeg) ((r_X7_isLow cell S).2)) ((r_X7_isLow cell S).2)) hr_n3 hl_n3 (hg_npl (ih_low zH (by assumption) (by assumption) _))) rfl kl_X7_191 ks_X7_placeOf ki_X7 kc_X7_placeOf kd_X7_placeOf rfl (by decide) (by decide) (Nat.le_of_ble_eq_true rfl) (fun v hp' hv _ _ => ?_) (fun E hp' zx _ _ => zx.elim)
    obtain ⟨rfl, rfl⟩ := hv
    show qq_Go _ hp3 (0) (0) 34 [(0, .ref 84), (1, .int cell)] [.int (r_X7_placeOf (r_X7_sizeOf (r_X7_trueOf ((((r_X7_isLow cell S).2).1) cell.toNatClampNeg) ((((r_X7_isLow cell S).2).2.1) cell.toNatClampNeg) ((r_X7_isLow cell S).2)) ((r_X7_isLow cell S).2)) ((r_X7_isLow cell S).2))] _ _
    refine qq_sipush (v := 256) dX7_height_34 (by decide) ?_
    refine qq_isub dX7_height_37 ?_
    have ze : r_X7_height cell S = ((r_X7_placeOf (r_X7_sizeOf (r_X7_trueOf ((((r_X7_isLow cell S).2).1) cell.toNatClampNeg) ((((r_X7_isLow cell S).2).2.1) cell.toNatClampNeg) ((r_X7_isLow cell S).2)) ((r_X7_isLow cell S).2)) ((r_X7_isLow cell S).2)) - 256, (r_X7_isLow cell S).2) := by
      rw [r_X7_height, if_pos zc1]
    exact qq_iret dX7_height_38 rfl rfl ⟨by rw [ze], by rw [ze]; first | exact ms_pr hS3 | exact hS3, (fr_t (fr_t fr1 fr2) fr3)⟩
  · refine qq_iconst (v := 0) dX7_height_8 (by decide) ?_
    refine qq_goto (tgt := 38) dX7_height_9 (by decide) ?_
    have ze : r_X7_height cell S = (0, (r_X7_isLow cell S).2) := by
      rw [r_X7_height, if_neg zc1]
    exact qq_iret dX7_height_38 rfl rfl ⟨by rw [ze], by rw [ze]; first | exact ms_pr hS1 | exact hS1, fr1⟩
def r_X7_digits (cell : Int32)  (S : sM) : Int32 × sM := if ((r_X7_isLow cell S).1) = 0 then (r_X7_digitsFrom ((r_X7_placeOf (r_X7_sizeOf (r_X7_trueOf ((((r_X7_isLow cell S).2).1) cell.toNatClampNeg) ((((r_X7_isLow cell S).2).2.1) cell.toNatClampNeg) ((r_X7_isLow cell S).2)) ((r_X7_isLow cell S).2)) ((r_X7_isLow cell S).2)) - 30) (r_X7_sizeOf (r_X7_trueOf ((((r_X7_isLow cell S).2).1) cell.toNatClampNeg) ((((r_X7_isLow cell S).2).2.1) cell.toNatClampNeg) ((r_X7_isLow cell S).2)) ((r_X7_isLow cell S).2)), (r_X7_isLow cell S).2) else (0, (r_X7_isLow cell S).2)
set_option maxRecDepth 4000 in
theorem mt_X7_digits (hp : qq_H) (A : qA) (S : sM) (hS : ms_M A S hp) (cell : Int32)     (zI : IM S) (zH : IH S) : qq_Mt mX7_digits [.ref 84, .int cell] hp 5 55 (fun v hp' => v = some (.int ((r_X7_digits cell S).1)) ∧ ms_M A ((r_X7_digits cell S).2) hp' ∧ fr A hp hp') (fun _ _ => False) := by
  refine qq_met pn_X7 (Nat.le_of_ble_eq_true rfl) (Nat.le_of_ble_eq_true rfl) kc_X7_digits ?_
  show qq_Go _ hp 5 55 0 [(0, .ref 84), (1, .int cell)] [] _ _
  refine qq_aload_n dX7_digits_0 rfl 0 rfl ?_
  refine qq_iload_n dX7_digits_1 rfl 1 rfl ?_
  refine qq_less (bc' := 5 + 0) (bs' := 55 + 0) (by omega) (by omega) ?_
  refine qq_callV (bc := 5) (bs := 55) (mc := 0) (ms := 0) (o := 84) (ci := 4) (N := 11) (T := TX7) (as := [.int cell]) (rest := []) dX7_digits_2 hS.2.2.1 (by decide) rfl (mt_X7_isLow hp A S hS cell ) rfl kl_X7_184 kn_X7_isLow ke_X7_isLow ki_X7 kc_X7_isLow kd_X7_isLow rfl (by decide) (by decide) (Nat.le_of_ble_eq_true rfl) (fun v hp1 hv _ _ => ?_) (fun E hp' zx _ _ => zx.elim)
  obtain ⟨rfl, hS1, fr1⟩ := hv
  show qq_Go _ hp1 (5) (55) 5 [(0, .ref 84), (1, .int cell)] [.int ((r_X7_isLow cell S).1)] _ _
  refine qq_if_eq (tgt := 10) dX7_digits_5 (by decide) (fun zc1 => ?_) (fun zc1 => ?_)
  · have zv1 := qx_isLow zc1
    refine qq_aload_n dX7_digits_10 rfl 0 rfl ?_
    refine qq_aload_n dX7_digits_11 rfl 0 rfl ?_
    refine mx_get hS1 dX7_digits_12 4 (by decide) rfl kl_X7_28 ?_
    refine qq_iload_n dX7_digits_15 rfl 1 rfl ?_
    refine qq_iald dX7_digits_16 hS1.2.2.2.1 zv1 ?_
    refine qq_aload_n dX7_digits_17 rfl 0 rfl ?_
    refine mx_get hS1 dX7_digits_18 5 (by decide) rfl kl_X7_31 ?_
    refine qq_iload_n dX7_digits_21 rfl 1 rfl ?_
    refine qq_iald dX7_digits_22 hS1.2.2.2.2.1 zv1 ?_
    refine qq_less (bc' := 2 + 3) (bs' := 22 + 33) (by omega) (by omega) ?_
    refine qq_callV (bc := 2) (bs := 22) (mc := 3) (ms := 33) (o := 84) (ci := 4) (N := 11) (T := TX7) (as := [.int ((((r_X7_isLow cell S).2).1) cell.toNatClampNeg), .int ((((r_X7_isLow cell S).2).2.1) cell.toNatClampNeg)]) (rest := []) dX7_digits_23 hS1.2.2.1 (by decide) rfl (mt_X7_trueOf hp1 A ((r_X7_isLow cell S).2) hS1 ((((r_X7_isLow cell S).2).1) cell.toNatClampNeg) ((((r_X7_isLow cell S).2).2.1) cell.toNatClampNeg) (im_t (im_low zI) zv1)) rfl kl_X7_88 kn_X7_trueOf ke_X7_trueOf ki_X7 kc_X7_trueOf kd_X7_trueOf rfl (by decide) (by decide) (Nat.le_of_ble_eq_true rfl) (fun v hp2 hv _ _ => ?_) (fun E hp' zx _ _ => zx.elim)
    obtain ⟨rj2, rfl, hS2, fr2, hr_n2, hl_n2⟩ := hv
    show qq_Go _ hp2 (2) (22) 26 [(0, .ref 84), (1, .int cell)] [.ref rj2] _ _
    refine qq_less (bc' := 0 + 2) (bs' := 0 + 22) (by omega) (by omega) ?_
    refine qq_callS (bc := 0) (bs := 0) (mc := 2) (ms := 22) (as := [.ref rj2]) (rest := []) dX7_digits_26 (mt_X7_sizeOf hp2 A ((r_X7_isLow cell S).2) hS2 rj2 (r_X7_trueOf ((((r_X7_isLow cell S).2).1) cell.toNatClampNeg) ((((r_X7_isLow cell S).2).2.1) cell.toNatClampNeg) ((r_X7_isLow cell S).2)) hr_n2 hl_n2 ) rfl kl_X7_187 ks_X7_sizeOf ki_X7 kc_X7_sizeOf kd_X7_sizeOf rfl (by decide) (by decide) (Nat.le_of_ble_eq_true rfl) (fun v hp3 hv _ _ => ?_) (fun E hp' zx _ _ => zx.elim)
    obtain ⟨rj3, rfl, hS3, fr3, hr_n3, hl_n3⟩ := hv
    have hr_2 := fr_w fr3 hS2 hl_n2 hr_n2 (by decide)
    have hl_2 := fr_l fr3 hl_n2
    show qq_Go _ hp3 (0) (0) 29 [(0, .ref 84), (1, .int cell)] [.ref rj3] _ _
    refine qq_astore_n (loc' := [(0, .ref 84), (1, .int cell), (2, .ref rj3)]) dX7_digits_29 rfl [1, 2, 0] (Nat.le_of_ble_eq_true rfl) rfl ?_
    refine qq_aload_n dX7_digits_30 rfl 2 rfl ?_
    refine qq_aload_n dX7_digits_31 rfl 2 rfl ?_
    refine qq_less (bc' := 0 + 0) (bs' := 0 + 0) (by omega) (by omega) ?_
    refine qq_callS (bc := 0) (bs := 0) (mc := 0) (ms := 0) (as := [.ref rj3]) (rest := [.ref rj3]) dX7_digits_32 (mt_X7_placeOf hp3 A ((r_X7_isLow cell S).2) hS3 rj3 (r_X7_sizeOf (r_X7_trueOf ((((r_X7_isLow cell S).2).1) cell.toNatClampNeg) ((((r_X7_isLow cell S).2).2.1) cell.toNatClampNeg) ((r_X7_isLow cell S).2)) ((r_X7_isLow cell S).2)) hr_n3 hl_n3 (hg_npl (ih_low zH (by assumption) (by assumption) _))) rfl kl_X7_191 ks_X7_placeOf ki_X7 kc_X7_placeOf kd_X7_placeOf rfl (by decide) (by decide) (Nat.le_of_ble_eq_true rfl) (fun v hp' hv _ _ => ?_) (fun E hp' zx _ _ => zx.elim)
    obtain ⟨rfl, rfl⟩ := hv
    show qq_Go _ hp3 (0) (0) 35 [(0, .ref 84), (1, .int cell), (2, .ref rj3)] [.int (r_X7_placeOf (r_X7_sizeOf (r_X7_trueOf ((((r_X7_isLow cell S).2).1) cell.toNatClampNeg) ((((r_X7_isLow cell S).2).2.1) cell.toNatClampNeg) ((r_X7_isLow cell S).2)) ((r_X7_isLow cell S).2)) ((r_X7_isLow cell S).2)), .ref rj3] _ _
    refine qq_bipush (v := 30) dX7_digits_35 (by decide) ?_
    refine qq_isub dX7_digits_37 ?_
    refine qq_less (bc' := 0 + 0) (bs' := 0 + 0) (by omega) (by omega) ?_
    refine qq_callS (bc := 0) (bs := 0) (mc := 0) (ms := 0) (as := [.ref rj3, .int ((r_X7_placeOf (r_X7_sizeOf (r_X7_trueOf ((((r_X7_isLow cell S).2).1) cell.toNatClampNeg) ((((r_X7_isLow cell S).2).2.1) cell.toNatClampNeg) ((r_X7_isLow cell S).2)) ((r_X7_isLow cell S).2)) ((r_X7_isLow cell S).2)) - 30)]) (rest := []) dX7_digits_38 (mt_X7_digitsFrom hp3 ((r_X7_placeOf (r_X7_sizeOf (r_X7_trueOf ((((r_X7_isLow cell S).2).1) cell.toNatClampNeg) ((((r_X7_isLow cell S).2).2.1) cell.toNatClampNeg) ((r_X7_isLow cell S).2)) ((r_X7_isLow cell S).2)) ((r_X7_isLow cell S).2)) - 30) rj3 (r_X7_sizeOf (r_X7_trueOf ((((r_X7_isLow cell S).2).1) cell.toNatClampNeg) ((((r_X7_isLow cell S).2).2.1) cell.toNatClampNeg) ((r_X7_isLow cell S).2)) ((r_X7_isLow cell S).2)) hr_n3 (hg_30 (ih_low zH (by assumption) (by assumption) _)).1 (hg_30 (ih_low zH (by assumption) (by assumption) _)).2) rfl kl_X7_181 ks_X7_digitsFrom ki_X7 kc_X7_digitsFrom kd_X7_digitsFrom rfl (by decide) (by decide) (Nat.le_of_ble_eq_true rfl) (fun v hp' hv _ _ => ?_) (fun E hp' zx _ _ => zx.elim)
    obtain ⟨rfl, rfl⟩ := hv
    show qq_Go _ hp3 (0) (0) 41 [(0, .ref 84), (1, .int cell), (2, .ref rj3)] [.int (r_X7_digitsFrom ((r_X7_placeOf (r_X7_sizeOf (r_X7_trueOf ((((r_X7_isLow cell S).2).1) cell.toNatClampNeg) ((((r_X7_isLow cell S).2).2.1) cell.toNatClampNeg) ((r_X7_isLow cell S).2)) ((r_X7_isLow cell S).2)) ((r_X7_isLow cell S).2)) - 30) (r_X7_sizeOf (r_X7_trueOf ((((r_X7_isLow cell S).2).1) cell.toNatClampNeg) ((((r_X7_isLow cell S).2).2.1) cell.toNatClampNeg) ((r_X7_isLow cell S).2)) ((r_X7_isLow cell S).2)))] _ _
    have ze : r_X7_digits cell S = (r_X7_digitsFrom ((r_X7_placeOf (r_X7_sizeOf (r_X7_trueOf ((((r_X7_isLow cell S).2).1) cell.toNatClampNeg) ((((r_X7_isLow cell S).2).2.1) cell.toNatClampNeg) ((r_X7_isLow cell S).2)) ((r_X7_isLow cell S).2)) ((r_X7_isLow cell S).2)) - 30) (r_X7_sizeOf (r_X7_trueOf ((((r_X7_isLow cell S).2).1) cell.toNatClampNeg) ((((r_X7_isLow cell S).2).2.1) cell.toNatClampNeg) ((r_X7_isLow cell S).2)) ((r_X7_isLow cell S).2)), (r_X7_isLow cell S).2) := by
      rw [r_X7_digits, if_pos zc1]
    exact qq_iret dX7_digits_41 rfl rfl ⟨by rw [ze], by rw [ze]; first | exact ms_pr hS3 | exact hS3, (fr_t (fr_t fr1 fr2) fr3)⟩
  · refine qq_iconst (v := 0) dX7_digits_8 (by decide) ?_
    have ze : r_X7_digits cell S = (0, (r_X7_isLow cell S).2) := by
      rw [r_X7_digits, if_neg zc1]
    exact qq_iret dX7_digits_9 rfl rfl ⟨by rw [ze], by rw [ze]; first | exact ms_pr hS1 | exact hS1, fr1⟩
def r_X7_order (one : Int32) (other : Int32)  (S : sM) : Int32 × sM := if ((r_X7_areNone one other S).1) = 0 then if (r_X7_areNear one other ((r_X7_areNone one other S).2)) = 0 then (r_X7_orderOf one other ((r_X7_areNone one other S).2), (r_X7_areNone one other S).2) else (2, (r_X7_areNone one other S).2) else (0, (r_X7_areNone one other S).2)
set_option maxRecDepth 4000 in
theorem mt_X7_order (hp : qq_H) (A : qA) (S : sM) (hS : ms_M A S hp) (one : Int32) (other : Int32)     (zI : IM S) : qq_Mt mX7_order [.ref 84, .int one, .int other] hp 6 66 (fun v hp' => v = some (.int ((r_X7_order one other S).1)) ∧ ms_M A ((r_X7_order one other S).2) hp' ∧ fr A hp hp') (fun _ _ => False) := by
  refine qq_met pn_X7 (Nat.le_of_ble_eq_true rfl) (Nat.le_of_ble_eq_true rfl) kc_X7_order ?_
  show qq_Go _ hp 6 66 0 [(0, .ref 84), (1, .int one), (2, .int other)] [] _ _
  refine qq_aload_n dX7_order_0 rfl 0 rfl ?_
  refine qq_iload_n dX7_order_1 rfl 1 rfl ?_
  refine qq_iload_n dX7_order_2 rfl 2 rfl ?_
  refine qq_less (bc' := 6 + 0) (bs' := 66 + 0) (by omega) (by omega) ?_
  refine qq_callV (bc := 6) (bs := 66) (mc := 0) (ms := 0) (o := 84) (ci := 4) (N := 11) (T := TX7) (as := [.int one, .int other]) (rest := []) dX7_order_3 hS.2.2.1 (by decide) rfl (mt_X7_areNone hp A S hS one other ) rfl kl_X7_236 kn_X7_areNone ke_X7_areNone ki_X7 kc_X7_areNone kd_X7_areNone rfl (by decide) (by decide) (Nat.le_of_ble_eq_true rfl) (fun v hp1 hv _ _ => ?_) (fun E hp' zx _ _ => zx.elim)
  obtain ⟨rfl, hS1, fr1⟩ := hv
  show qq_Go _ hp1 (6) (66) 6 [(0, .ref 84), (1, .int one), (2, .int other)] [.int ((r_X7_areNone one other S).1)] _ _
  refine qq_if_eq (tgt := 13) dX7_order_6 (by decide) (fun zc1 => ?_) (fun zc1 => ?_)
  · have zv1 := (qx_none zc1).1
    have zv2 := (qx_none zc1).2
    refine qq_aload_n dX7_order_13 rfl 0 rfl ?_
    refine qq_iload_n dX7_order_14 rfl 1 rfl ?_
    refine qq_iload_n dX7_order_15 rfl 2 rfl ?_
    refine qq_less (bc' := 6 + 0) (bs' := 66 + 0) (by omega) (by omega) ?_
    refine qq_callV (bc := 6) (bs := 66) (mc := 0) (ms := 0) (o := 84) (ci := 4) (N := 11) (T := TX7) (as := [.int one, .int other]) (rest := []) dX7_order_16 hS1.2.2.1 (by decide) rfl (mt_X7_areNear hp1 A ((r_X7_areNone one other S).2) hS1 one other zv1 zv2) rfl kl_X7_240 kn_X7_areNear ke_X7_areNear ki_X7 kc_X7_areNear kd_X7_areNear rfl (by decide) (by decide) (Nat.le_of_ble_eq_true rfl) (fun v hp' hv _ _ => ?_) (fun E hp' zx _ _ => zx.elim)
    obtain ⟨rfl, rfl⟩ := hv
    show qq_Go _ hp1 (6) (66) 19 [(0, .ref 84), (1, .int one), (2, .int other)] [.int (r_X7_areNear one other ((r_X7_areNone one other S).2))] _ _
    refine qq_if_eq (tgt := 26) dX7_order_19 (by decide) (fun zc2 => ?_) (fun zc2 => ?_)
    · refine qq_aload_n dX7_order_26 rfl 0 rfl ?_
      refine qq_iload_n dX7_order_27 rfl 1 rfl ?_
      refine qq_iload_n dX7_order_28 rfl 2 rfl ?_
      refine qq_less (bc' := 0 + 6) (bs' := 0 + 66) (by omega) (by omega) ?_
      refine qq_callV (bc := 0) (bs := 0) (mc := 6) (ms := 66) (o := 84) (ci := 4) (N := 11) (T := TX7) (as := [.int one, .int other]) (rest := []) dX7_order_29 hS1.2.2.1 (by decide) rfl (mt_X7_orderOf hp1 A ((r_X7_areNone one other S).2) hS1 one other zv1 zv2 (im_none zI)) rfl kl_X7_168 kn_X7_orderOf ke_X7_orderOf ki_X7 kc_X7_orderOf kd_X7_orderOf rfl (by decide) (by decide) (Nat.le_of_ble_eq_true rfl) (fun v hp2 hv _ _ => ?_) (fun E hp' zx _ _ => zx.elim)
      obtain ⟨rfl, hS2, fr2⟩ := hv
      show qq_Go _ hp2 (0) (0) 32 [(0, .ref 84), (1, .int one), (2, .int other)] [.int (r_X7_orderOf one other ((r_X7_areNone one other S).2))] _ _
      have ze : r_X7_order one other S = (r_X7_orderOf one other ((r_X7_areNone one other S).2), (r_X7_areNone one other S).2) := by
        rw [r_X7_order, if_pos zc1, if_pos zc2]
      exact qq_iret dX7_order_32 rfl rfl ⟨by rw [ze], by rw [ze]; first | exact ms_pr hS2 | exact hS2, (fr_t fr1 fr2)⟩
    · refine qq_iconst (v := 2) dX7_order_22 (by decide) ?_
      refine qq_goto (tgt := 32) dX7_order_23 (by decide) ?_
      have ze : r_X7_order one other S = (2, (r_X7_areNone one other S).2) := by
        rw [r_X7_order, if_pos zc1, if_neg zc2]
      exact qq_iret dX7_order_32 rfl rfl ⟨by rw [ze], by rw [ze]; first | exact ms_pr hS1 | exact hS1, fr1⟩
  · refine qq_iconst (v := 0) dX7_order_9 (by decide) ?_
    refine qq_goto (tgt := 32) dX7_order_10 (by decide) ?_
    have ze : r_X7_order one other S = (0, (r_X7_areNone one other S).2) := by
      rw [r_X7_order, if_neg zc1]
    exact qq_iret dX7_order_32 rfl rfl ⟨by rw [ze], by rw [ze]; first | exact ms_pr hS1 | exact hS1, fr1⟩
def r_X7_greater (one : Int32) (other : Int32) (into : Int32)  (S : sM) : Int32 × sM := if (f_X7_isNoCell one) = 0 then if (f_X7_isNoCell other) = 0 then if (f_X7_isNoCell into) = 0 then if ((r_X7_isRefused (0 : Int32) (0 : Int32) S).1) = 0 then if 0 ≤ (r_X7_orderOf one other ((r_X7_isRefused (0 : Int32) (0 : Int32) S).2)) then ((r_X7_take one into ((r_X7_isRefused (0 : Int32) (0 : Int32) S).2)).1, (r_X7_take one into ((r_X7_isRefused (0 : Int32) (0 : Int32) S).2)).2) else ((r_X7_take other into ((r_X7_isRefused (0 : Int32) (0 : Int32) S).2)).1, (r_X7_take other into ((r_X7_isRefused (0 : Int32) (0 : Int32) S).2)).2) else (0, (r_X7_isRefused (0 : Int32) (0 : Int32) S).2) else if ((r_X7_isRefused (1 : Int32) (0 : Int32) S).1) = 0 then (0, (r_X7_isRefused (1 : Int32) (0 : Int32) S).2) else (0, (r_X7_isRefused (1 : Int32) (0 : Int32) S).2) else if ((r_X7_isRefused (1 : Int32) (0 : Int32) S).1) = 0 then (0, (r_X7_isRefused (1 : Int32) (0 : Int32) S).2) else (0, (r_X7_isRefused (1 : Int32) (0 : Int32) S).2) else if ((r_X7_isRefused (1 : Int32) (0 : Int32) S).1) = 0 then (0, (r_X7_isRefused (1 : Int32) (0 : Int32) S).2) else (0, (r_X7_isRefused (1 : Int32) (0 : Int32) S).2)
set_option maxRecDepth 4000 in
theorem mt_X7_greater (hp : qq_H) (A : qA) (S : sM) (hS : ms_M A S hp) (one : Int32) (other : Int32) (into : Int32)     (zI : IM S) : qq_Mt mX7_greater [.ref 84, .int one, .int other, .int into] hp 6 66 (fun v hp' => v = some (.int ((r_X7_greater one other into S).1)) ∧ ms_M A ((r_X7_greater one other into S).2) hp' ∧ fr A hp hp') (fun _ _ => False) := by
  refine qq_met pn_X7 (Nat.le_of_ble_eq_true rfl) (Nat.le_of_ble_eq_true rfl) kc_X7_greater ?_
  show qq_Go _ hp 6 66 0 [(0, .ref 84), (1, .int one), (2, .int other), (3, .int into)] [] _ _
  refine qq_aload_n dX7_greater_0 rfl 0 rfl ?_
  refine qq_iload_n dX7_greater_1 rfl 1 rfl ?_
  refine qq_less (bc' := 6 + 0) (bs' := 66 + 0) (by omega) (by omega) ?_
  refine qq_callS (bc := 6) (bs := 66) (mc := 0) (ms := 0) (as := [.int one]) (rest := [.ref 84]) dX7_greater_2 (mt_X7_isNoCell hp one) rfl kl_X7_123 ks_X7_isNoCell ki_X7 kc_X7_isNoCell kd_X7_isNoCell rfl (by decide) (by decide) (Nat.le_of_ble_eq_true rfl) (fun v hp' hv _ _ => ?_) (fun E hp' zx _ _ => zx.elim)
  obtain ⟨rfl, rfl⟩ := hv
  show qq_Go _ hp (6) (66) 5 [(0, .ref 84), (1, .int one), (2, .int other), (3, .int into)] [.int (f_X7_isNoCell one), .ref 84] _ _
  refine qq_if_ne (tgt := 22) dX7_greater_5 (by decide) (fun zc1 => ?_) (fun zc1 => ?_)
  · refine qq_iconst (v := 1) dX7_greater_22 (by decide) ?_
    refine qq_goto (tgt := 27) dX7_greater_23 (by decide) ?_
    refine qq_iconst (v := 0) dX7_greater_27 (by decide) ?_
    refine qq_less (bc' := 6 + 0) (bs' := 66 + 0) (by omega) (by omega) ?_
    refine qq_callV (bc := 6) (bs := 66) (mc := 0) (ms := 0) (o := 84) (ci := 4) (N := 11) (T := TX7) (as := [.int 1, .int 0]) (rest := []) dX7_greater_28 hS.2.2.1 (by decide) rfl (mt_X7_isRefused hp A S hS (1 : Int32) (0 : Int32) ) rfl kl_X7_126 kn_X7_isRefused ke_X7_isRefused ki_X7 kc_X7_isRefused kd_X7_isRefused rfl (by decide) (by decide) (Nat.le_of_ble_eq_true rfl) (fun v hp1 hv _ _ => ?_) (fun E hp' zx _ _ => zx.elim)
    obtain ⟨rfl, hS1, fr1⟩ := hv
    show qq_Go _ hp1 (6) (66) 31 [(0, .ref 84), (1, .int one), (2, .int other), (3, .int into)] [.int ((r_X7_isRefused (1 : Int32) (0 : Int32) S).1)] _ _
    refine qq_if_eq (tgt := 36) dX7_greater_31 (by decide) (fun zc2 => ?_) (fun zc2 => ?_)
    · exact absurd zc2 qx_1
    · refine qq_iconst (v := 0) dX7_greater_34 (by decide) ?_
      have ze : r_X7_greater one other into S = (0, (r_X7_isRefused (1 : Int32) (0 : Int32) S).2) := by
        rw [r_X7_greater, if_neg zc1, if_neg zc2]
      exact qq_iret dX7_greater_35 rfl rfl ⟨by rw [ze], by rw [ze]; first | exact ms_pr hS1 | exact hS1, fr1⟩
  · have zv1 := qx_cell zc1
    refine qq_iload_n dX7_greater_8 rfl 2 rfl ?_
    refine qq_less (bc' := 6 + 0) (bs' := 66 + 0) (by omega) (by omega) ?_
    refine qq_callS (bc := 6) (bs := 66) (mc := 0) (ms := 0) (as := [.int other]) (rest := [.ref 84]) dX7_greater_9 (mt_X7_isNoCell hp other) rfl kl_X7_123 ks_X7_isNoCell ki_X7 kc_X7_isNoCell kd_X7_isNoCell rfl (by decide) (by decide) (Nat.le_of_ble_eq_true rfl) (fun v hp' hv _ _ => ?_) (fun E hp' zx _ _ => zx.elim)
    obtain ⟨rfl, rfl⟩ := hv
    show qq_Go _ hp (6) (66) 12 [(0, .ref 84), (1, .int one), (2, .int other), (3, .int into)] [.int (f_X7_isNoCell other), .ref 84] _ _
    refine qq_if_ne (tgt := 22) dX7_greater_12 (by decide) (fun zc3 => ?_) (fun zc3 => ?_)
    · refine qq_iconst (v := 1) dX7_greater_22 (by decide) ?_
      refine qq_goto (tgt := 27) dX7_greater_23 (by decide) ?_
      refine qq_iconst (v := 0) dX7_greater_27 (by decide) ?_
      refine qq_less (bc' := 6 + 0) (bs' := 66 + 0) (by omega) (by omega) ?_
      refine qq_callV (bc := 6) (bs := 66) (mc := 0) (ms := 0) (o := 84) (ci := 4) (N := 11) (T := TX7) (as := [.int 1, .int 0]) (rest := []) dX7_greater_28 hS.2.2.1 (by decide) rfl (mt_X7_isRefused hp A S hS (1 : Int32) (0 : Int32) ) rfl kl_X7_126 kn_X7_isRefused ke_X7_isRefused ki_X7 kc_X7_isRefused kd_X7_isRefused rfl (by decide) (by decide) (Nat.le_of_ble_eq_true rfl) (fun v hp2 hv _ _ => ?_) (fun E hp' zx _ _ => zx.elim)
      obtain ⟨rfl, hS2, fr2⟩ := hv
      show qq_Go _ hp2 (6) (66) 31 [(0, .ref 84), (1, .int one), (2, .int other), (3, .int into)] [.int ((r_X7_isRefused (1 : Int32) (0 : Int32) S).1)] _ _
      refine qq_if_eq (tgt := 36) dX7_greater_31 (by decide) (fun zc4 => ?_) (fun zc4 => ?_)
      · exact absurd zc4 qx_1
      · refine qq_iconst (v := 0) dX7_greater_34 (by decide) ?_
        have ze : r_X7_greater one other into S = (0, (r_X7_isRefused (1 : Int32) (0 : Int32) S).2) := by
          rw [r_X7_greater, if_pos zc1, if_neg zc3, if_neg zc4]
        exact qq_iret dX7_greater_35 rfl rfl ⟨by rw [ze], by rw [ze]; first | exact ms_pr hS2 | exact hS2, fr2⟩
    · have zv2 := qx_cell zc3
      refine qq_iload_n dX7_greater_15 rfl 3 rfl ?_
      refine qq_less (bc' := 6 + 0) (bs' := 66 + 0) (by omega) (by omega) ?_
      refine qq_callS (bc := 6) (bs := 66) (mc := 0) (ms := 0) (as := [.int into]) (rest := [.ref 84]) dX7_greater_16 (mt_X7_isNoCell hp into) rfl kl_X7_123 ks_X7_isNoCell ki_X7 kc_X7_isNoCell kd_X7_isNoCell rfl (by decide) (by decide) (Nat.le_of_ble_eq_true rfl) (fun v hp' hv _ _ => ?_) (fun E hp' zx _ _ => zx.elim)
      obtain ⟨rfl, rfl⟩ := hv
      show qq_Go _ hp (6) (66) 19 [(0, .ref 84), (1, .int one), (2, .int other), (3, .int into)] [.int (f_X7_isNoCell into), .ref 84] _ _
      refine qq_if_eq (tgt := 26) dX7_greater_19 (by decide) (fun zc5 => ?_) (fun zc5 => ?_)
      · have zv3 := qx_cell zc5
        refine qq_iconst (v := 0) dX7_greater_26 (by decide) ?_
        refine qq_iconst (v := 0) dX7_greater_27 (by decide) ?_
        refine qq_less (bc' := 6 + 0) (bs' := 66 + 0) (by omega) (by omega) ?_
        refine qq_callV (bc := 6) (bs := 66) (mc := 0) (ms := 0) (o := 84) (ci := 4) (N := 11) (T := TX7) (as := [.int 0, .int 0]) (rest := []) dX7_greater_28 hS.2.2.1 (by decide) rfl (mt_X7_isRefused hp A S hS (0 : Int32) (0 : Int32) ) rfl kl_X7_126 kn_X7_isRefused ke_X7_isRefused ki_X7 kc_X7_isRefused kd_X7_isRefused rfl (by decide) (by decide) (Nat.le_of_ble_eq_true rfl) (fun v hp3 hv _ _ => ?_) (fun E hp' zx _ _ => zx.elim)
        obtain ⟨rfl, hS3, fr3⟩ := hv
        show qq_Go _ hp3 (6) (66) 31 [(0, .ref 84), (1, .int one), (2, .int other), (3, .int into)] [.int ((r_X7_isRefused (0 : Int32) (0 : Int32) S).1)] _ _
        refine qq_if_eq (tgt := 36) dX7_greater_31 (by decide) (fun zc6 => ?_) (fun zc6 => ?_)
        · refine qq_aload_n dX7_greater_36 rfl 0 rfl ?_
          refine qq_aload_n dX7_greater_37 rfl 0 rfl ?_
          refine qq_iload_n dX7_greater_38 rfl 1 rfl ?_
          refine qq_iload_n dX7_greater_39 rfl 2 rfl ?_
          refine qq_less (bc' := 0 + 6) (bs' := 0 + 66) (by omega) (by omega) ?_
          refine qq_callV (bc := 0) (bs := 0) (mc := 6) (ms := 66) (o := 84) (ci := 4) (N := 11) (T := TX7) (as := [.int one, .int other]) (rest := [.ref 84]) dX7_greater_40 hS3.2.2.1 (by decide) rfl (mt_X7_orderOf hp3 A ((r_X7_isRefused (0 : Int32) (0 : Int32) S).2) hS3 one other zv1 zv2 (im_ref zI)) rfl kl_X7_168 kn_X7_orderOf ke_X7_orderOf ki_X7 kc_X7_orderOf kd_X7_orderOf rfl (by decide) (by decide) (Nat.le_of_ble_eq_true rfl) (fun v hp4 hv _ _ => ?_) (fun E hp' zx _ _ => zx.elim)
          obtain ⟨rfl, hS4, fr4⟩ := hv
          show qq_Go _ hp4 (0) (0) 43 [(0, .ref 84), (1, .int one), (2, .int other), (3, .int into)] [.int (r_X7_orderOf one other ((r_X7_isRefused (0 : Int32) (0 : Int32) S).2)), .ref 84] _ _
          refine qq_if_ge (tgt := 50) dX7_greater_43 (by decide) (fun zc7 => ?_) (fun zc7 => ?_)
          · refine qq_iload_n dX7_greater_50 rfl 1 rfl ?_
            refine qq_iload_n dX7_greater_51 rfl 3 rfl ?_
            refine qq_less (bc' := 0 + 0) (bs' := 0 + 0) (by omega) (by omega) ?_
            refine qq_callV (bc := 0) (bs := 0) (mc := 0) (ms := 0) (o := 84) (ci := 4) (N := 11) (T := TX7) (as := [.int one, .int into]) (rest := []) dX7_greater_52 hS4.2.2.1 (by decide) rfl (mt_X7_take hp4 A ((r_X7_isRefused (0 : Int32) (0 : Int32) S).2) hS4 one into zv1 zv3) rfl kl_X7_171 kn_X7_take ke_X7_take ki_X7 kc_X7_take kd_X7_take rfl (by decide) (by decide) (Nat.le_of_ble_eq_true rfl) (fun v hp5 hv _ _ => ?_) (fun E hp' zx _ _ => zx.elim)
            obtain ⟨rfl, hS5, fr5⟩ := hv
            show qq_Go _ hp5 (0) (0) 55 [(0, .ref 84), (1, .int one), (2, .int other), (3, .int into)] [.int ((r_X7_take one into ((r_X7_isRefused (0 : Int32) (0 : Int32) S).2)).1)] _ _
            have ze : r_X7_greater one other into S = ((r_X7_take one into ((r_X7_isRefused (0 : Int32) (0 : Int32) S).2)).1, (r_X7_take one into ((r_X7_isRefused (0 : Int32) (0 : Int32) S).2)).2) := by
              rw [r_X7_greater, if_pos zc1, if_pos zc3, if_pos zc5, if_pos zc6, if_pos zc7]
            exact qq_iret dX7_greater_55 rfl rfl ⟨by rw [ze], by rw [ze]; first | exact ms_pr hS5 | exact hS5, (fr_t (fr_t fr3 fr4) fr5)⟩
          · refine qq_iload_n dX7_greater_46 rfl 2 rfl ?_
            refine qq_goto (tgt := 51) dX7_greater_47 (by decide) ?_
            refine qq_iload_n dX7_greater_51 rfl 3 rfl ?_
            refine qq_less (bc' := 0 + 0) (bs' := 0 + 0) (by omega) (by omega) ?_
            refine qq_callV (bc := 0) (bs := 0) (mc := 0) (ms := 0) (o := 84) (ci := 4) (N := 11) (T := TX7) (as := [.int other, .int into]) (rest := []) dX7_greater_52 hS4.2.2.1 (by decide) rfl (mt_X7_take hp4 A ((r_X7_isRefused (0 : Int32) (0 : Int32) S).2) hS4 other into zv2 zv3) rfl kl_X7_171 kn_X7_take ke_X7_take ki_X7 kc_X7_take kd_X7_take rfl (by decide) (by decide) (Nat.le_of_ble_eq_true rfl) (fun v hp6 hv _ _ => ?_) (fun E hp' zx _ _ => zx.elim)
            obtain ⟨rfl, hS6, fr6⟩ := hv
            show qq_Go _ hp6 (0) (0) 55 [(0, .ref 84), (1, .int one), (2, .int other), (3, .int into)] [.int ((r_X7_take other into ((r_X7_isRefused (0 : Int32) (0 : Int32) S).2)).1)] _ _
            have ze : r_X7_greater one other into S = ((r_X7_take other into ((r_X7_isRefused (0 : Int32) (0 : Int32) S).2)).1, (r_X7_take other into ((r_X7_isRefused (0 : Int32) (0 : Int32) S).2)).2) := by
              rw [r_X7_greater, if_pos zc1, if_pos zc3, if_pos zc5, if_pos zc6, if_neg zc7]
            exact qq_iret dX7_greater_55 rfl rfl ⟨by rw [ze], by rw [ze]; first | exact ms_pr hS6 | exact hS6, (fr_t (fr_t fr3 fr4) fr6)⟩
        · exact absurd qx_0 zc6
      · refine qq_iconst (v := 1) dX7_greater_22 (by decide) ?_
        refine qq_goto (tgt := 27) dX7_greater_23 (by decide) ?_
        refine qq_iconst (v := 0) dX7_greater_27 (by decide) ?_
        refine qq_less (bc' := 6 + 0) (bs' := 66 + 0) (by omega) (by omega) ?_
        refine qq_callV (bc := 6) (bs := 66) (mc := 0) (ms := 0) (o := 84) (ci := 4) (N := 11) (T := TX7) (as := [.int 1, .int 0]) (rest := []) dX7_greater_28 hS.2.2.1 (by decide) rfl (mt_X7_isRefused hp A S hS (1 : Int32) (0 : Int32) ) rfl kl_X7_126 kn_X7_isRefused ke_X7_isRefused ki_X7 kc_X7_isRefused kd_X7_isRefused rfl (by decide) (by decide) (Nat.le_of_ble_eq_true rfl) (fun v hp7 hv _ _ => ?_) (fun E hp' zx _ _ => zx.elim)
        obtain ⟨rfl, hS7, fr7⟩ := hv
        show qq_Go _ hp7 (6) (66) 31 [(0, .ref 84), (1, .int one), (2, .int other), (3, .int into)] [.int ((r_X7_isRefused (1 : Int32) (0 : Int32) S).1)] _ _
        refine qq_if_eq (tgt := 36) dX7_greater_31 (by decide) (fun zc8 => ?_) (fun zc8 => ?_)
        · exact absurd zc8 qx_1
        · refine qq_iconst (v := 0) dX7_greater_34 (by decide) ?_
          have ze : r_X7_greater one other into S = (0, (r_X7_isRefused (1 : Int32) (0 : Int32) S).2) := by
            rw [r_X7_greater, if_pos zc1, if_pos zc3, if_neg zc5, if_neg zc8]
          exact qq_iret dX7_greater_35 rfl rfl ⟨by rw [ze], by rw [ze]; first | exact ms_pr hS7 | exact hS7, fr7⟩
def r_X7_lesser (one : Int32) (other : Int32) (into : Int32)  (S : sM) : Int32 × sM := if (f_X7_isNoCell one) = 0 then if (f_X7_isNoCell other) = 0 then if (f_X7_isNoCell into) = 0 then if ((r_X7_isRefused (0 : Int32) (0 : Int32) S).1) = 0 then if 0 ≤ (r_X7_orderOf other one ((r_X7_isRefused (0 : Int32) (0 : Int32) S).2)) then ((r_X7_take one into ((r_X7_isRefused (0 : Int32) (0 : Int32) S).2)).1, (r_X7_take one into ((r_X7_isRefused (0 : Int32) (0 : Int32) S).2)).2) else ((r_X7_take other into ((r_X7_isRefused (0 : Int32) (0 : Int32) S).2)).1, (r_X7_take other into ((r_X7_isRefused (0 : Int32) (0 : Int32) S).2)).2) else (0, (r_X7_isRefused (0 : Int32) (0 : Int32) S).2) else if ((r_X7_isRefused (1 : Int32) (0 : Int32) S).1) = 0 then (0, (r_X7_isRefused (1 : Int32) (0 : Int32) S).2) else (0, (r_X7_isRefused (1 : Int32) (0 : Int32) S).2) else if ((r_X7_isRefused (1 : Int32) (0 : Int32) S).1) = 0 then (0, (r_X7_isRefused (1 : Int32) (0 : Int32) S).2) else (0, (r_X7_isRefused (1 : Int32) (0 : Int32) S).2) else if ((r_X7_isRefused (1 : Int32) (0 : Int32) S).1) = 0 then (0, (r_X7_isRefused (1 : Int32) (0 : Int32) S).2) else (0, (r_X7_isRefused (1 : Int32) (0 : Int32) S).2)
set_option maxRecDepth 4000 in
theorem mt_X7_lesser (hp : qq_H) (A : qA) (S : sM) (hS : ms_M A S hp) (one : Int32) (other : Int32) (into : Int32)     (zI : IM S) : qq_Mt mX7_lesser [.ref 84, .int one, .int other, .int into] hp 6 66 (fun v hp' => v = some (.int ((r_X7_lesser one other into S).1)) ∧ ms_M A ((r_X7_lesser one other into S).2) hp' ∧ fr A hp hp') (fun _ _ => False) := by
  refine qq_met pn_X7 (Nat.le_of_ble_eq_true rfl) (Nat.le_of_ble_eq_true rfl) kc_X7_lesser ?_
  show qq_Go _ hp 6 66 0 [(0, .ref 84), (1, .int one), (2, .int other), (3, .int into)] [] _ _
  refine qq_aload_n dX7_lesser_0 rfl 0 rfl ?_
  refine qq_iload_n dX7_lesser_1 rfl 1 rfl ?_
  refine qq_less (bc' := 6 + 0) (bs' := 66 + 0) (by omega) (by omega) ?_
  refine qq_callS (bc := 6) (bs := 66) (mc := 0) (ms := 0) (as := [.int one]) (rest := [.ref 84]) dX7_lesser_2 (mt_X7_isNoCell hp one) rfl kl_X7_123 ks_X7_isNoCell ki_X7 kc_X7_isNoCell kd_X7_isNoCell rfl (by decide) (by decide) (Nat.le_of_ble_eq_true rfl) (fun v hp' hv _ _ => ?_) (fun E hp' zx _ _ => zx.elim)
  obtain ⟨rfl, rfl⟩ := hv
  show qq_Go _ hp (6) (66) 5 [(0, .ref 84), (1, .int one), (2, .int other), (3, .int into)] [.int (f_X7_isNoCell one), .ref 84] _ _
  refine qq_if_ne (tgt := 22) dX7_lesser_5 (by decide) (fun zc1 => ?_) (fun zc1 => ?_)
  · refine qq_iconst (v := 1) dX7_lesser_22 (by decide) ?_
    refine qq_goto (tgt := 27) dX7_lesser_23 (by decide) ?_
    refine qq_iconst (v := 0) dX7_lesser_27 (by decide) ?_
    refine qq_less (bc' := 6 + 0) (bs' := 66 + 0) (by omega) (by omega) ?_
    refine qq_callV (bc := 6) (bs := 66) (mc := 0) (ms := 0) (o := 84) (ci := 4) (N := 11) (T := TX7) (as := [.int 1, .int 0]) (rest := []) dX7_lesser_28 hS.2.2.1 (by decide) rfl (mt_X7_isRefused hp A S hS (1 : Int32) (0 : Int32) ) rfl kl_X7_126 kn_X7_isRefused ke_X7_isRefused ki_X7 kc_X7_isRefused kd_X7_isRefused rfl (by decide) (by decide) (Nat.le_of_ble_eq_true rfl) (fun v hp1 hv _ _ => ?_) (fun E hp' zx _ _ => zx.elim)
    obtain ⟨rfl, hS1, fr1⟩ := hv
    show qq_Go _ hp1 (6) (66) 31 [(0, .ref 84), (1, .int one), (2, .int other), (3, .int into)] [.int ((r_X7_isRefused (1 : Int32) (0 : Int32) S).1)] _ _
    refine qq_if_eq (tgt := 36) dX7_lesser_31 (by decide) (fun zc2 => ?_) (fun zc2 => ?_)
    · exact absurd zc2 qx_1
    · refine qq_iconst (v := 0) dX7_lesser_34 (by decide) ?_
      have ze : r_X7_lesser one other into S = (0, (r_X7_isRefused (1 : Int32) (0 : Int32) S).2) := by
        rw [r_X7_lesser, if_neg zc1, if_neg zc2]
      exact qq_iret dX7_lesser_35 rfl rfl ⟨by rw [ze], by rw [ze]; first | exact ms_pr hS1 | exact hS1, fr1⟩
  · have zv1 := qx_cell zc1
    refine qq_iload_n dX7_lesser_8 rfl 2 rfl ?_
    refine qq_less (bc' := 6 + 0) (bs' := 66 + 0) (by omega) (by omega) ?_
    refine qq_callS (bc := 6) (bs := 66) (mc := 0) (ms := 0) (as := [.int other]) (rest := [.ref 84]) dX7_lesser_9 (mt_X7_isNoCell hp other) rfl kl_X7_123 ks_X7_isNoCell ki_X7 kc_X7_isNoCell kd_X7_isNoCell rfl (by decide) (by decide) (Nat.le_of_ble_eq_true rfl) (fun v hp' hv _ _ => ?_) (fun E hp' zx _ _ => zx.elim)
    obtain ⟨rfl, rfl⟩ := hv
    show qq_Go _ hp (6) (66) 12 [(0, .ref 84), (1, .int one), (2, .int other), (3, .int into)] [.int (f_X7_isNoCell other), .ref 84] _ _
    refine qq_if_ne (tgt := 22) dX7_lesser_12 (by decide) (fun zc3 => ?_) (fun zc3 => ?_)
    · refine qq_iconst (v := 1) dX7_lesser_22 (by decide) ?_
      refine qq_goto (tgt := 27) dX7_lesser_23 (by decide) ?_
      refine qq_iconst (v := 0) dX7_lesser_27 (by decide) ?_
      refine qq_less (bc' := 6 + 0) (bs' := 66 + 0) (by omega) (by omega) ?_
      refine qq_callV (bc := 6) (bs := 66) (mc := 0) (ms := 0) (o := 84) (ci := 4) (N := 11) (T := TX7) (as := [.int 1, .int 0]) (rest := []) dX7_lesser_28 hS.2.2.1 (by decide) rfl (mt_X7_isRefused hp A S hS (1 : Int32) (0 : Int32) ) rfl kl_X7_126 kn_X7_isRefused ke_X7_isRefused ki_X7 kc_X7_isRefused kd_X7_isRefused rfl (by decide) (by decide) (Nat.le_of_ble_eq_true rfl) (fun v hp2 hv _ _ => ?_) (fun E hp' zx _ _ => zx.elim)
      obtain ⟨rfl, hS2, fr2⟩ := hv
      show qq_Go _ hp2 (6) (66) 31 [(0, .ref 84), (1, .int one), (2, .int other), (3, .int into)] [.int ((r_X7_isRefused (1 : Int32) (0 : Int32) S).1)] _ _
      refine qq_if_eq (tgt := 36) dX7_lesser_31 (by decide) (fun zc4 => ?_) (fun zc4 => ?_)
      · exact absurd zc4 qx_1
      · refine qq_iconst (v := 0) dX7_lesser_34 (by decide) ?_
        have ze : r_X7_lesser one other into S = (0, (r_X7_isRefused (1 : Int32) (0 : Int32) S).2) := by
          rw [r_X7_lesser, if_pos zc1, if_neg zc3, if_neg zc4]
        exact qq_iret dX7_lesser_35 rfl rfl ⟨by rw [ze], by rw [ze]; first | exact ms_pr hS2 | exact hS2, fr2⟩
    · have zv2 := qx_cell zc3
      refine qq_iload_n dX7_lesser_15 rfl 3 rfl ?_
      refine qq_less (bc' := 6 + 0) (bs' := 66 + 0) (by omega) (by omega) ?_
      refine qq_callS (bc := 6) (bs := 66) (mc := 0) (ms := 0) (as := [.int into]) (rest := [.ref 84]) dX7_lesser_16 (mt_X7_isNoCell hp into) rfl kl_X7_123 ks_X7_isNoCell ki_X7 kc_X7_isNoCell kd_X7_isNoCell rfl (by decide) (by decide) (Nat.le_of_ble_eq_true rfl) (fun v hp' hv _ _ => ?_) (fun E hp' zx _ _ => zx.elim)
      obtain ⟨rfl, rfl⟩ := hv
      show qq_Go _ hp (6) (66) 19 [(0, .ref 84), (1, .int one), (2, .int other), (3, .int into)] [.int (f_X7_isNoCell into), .ref 84] _ _
      refine qq_if_eq (tgt := 26) dX7_lesser_19 (by decide) (fun zc5 => ?_) (fun zc5 => ?_)
      · have zv3 := qx_cell zc5
        refine qq_iconst (v := 0) dX7_lesser_26 (by decide) ?_
        refine qq_iconst (v := 0) dX7_lesser_27 (by decide) ?_
        refine qq_less (bc' := 6 + 0) (bs' := 66 + 0) (by omega) (by omega) ?_
        refine qq_callV (bc := 6) (bs := 66) (mc := 0) (ms := 0) (o := 84) (ci := 4) (N := 11) (T := TX7) (as := [.int 0, .int 0]) (rest := []) dX7_lesser_28 hS.2.2.1 (by decide) rfl (mt_X7_isRefused hp A S hS (0 : Int32) (0 : Int32) ) rfl kl_X7_126 kn_X7_isRefused ke_X7_isRefused ki_X7 kc_X7_isRefused kd_X7_isRefused rfl (by decide) (by decide) (Nat.le_of_ble_eq_true rfl) (fun v hp3 hv _ _ => ?_) (fun E hp' zx _ _ => zx.elim)
        obtain ⟨rfl, hS3, fr3⟩ := hv
        show qq_Go _ hp3 (6) (66) 31 [(0, .ref 84), (1, .int one), (2, .int other), (3, .int into)] [.int ((r_X7_isRefused (0 : Int32) (0 : Int32) S).1)] _ _
        refine qq_if_eq (tgt := 36) dX7_lesser_31 (by decide) (fun zc6 => ?_) (fun zc6 => ?_)
        · refine qq_aload_n dX7_lesser_36 rfl 0 rfl ?_
          refine qq_aload_n dX7_lesser_37 rfl 0 rfl ?_
          refine qq_iload_n dX7_lesser_38 rfl 2 rfl ?_
          refine qq_iload_n dX7_lesser_39 rfl 1 rfl ?_
          refine qq_less (bc' := 0 + 6) (bs' := 0 + 66) (by omega) (by omega) ?_
          refine qq_callV (bc := 0) (bs := 0) (mc := 6) (ms := 66) (o := 84) (ci := 4) (N := 11) (T := TX7) (as := [.int other, .int one]) (rest := [.ref 84]) dX7_lesser_40 hS3.2.2.1 (by decide) rfl (mt_X7_orderOf hp3 A ((r_X7_isRefused (0 : Int32) (0 : Int32) S).2) hS3 other one zv2 zv1 (im_ref zI)) rfl kl_X7_168 kn_X7_orderOf ke_X7_orderOf ki_X7 kc_X7_orderOf kd_X7_orderOf rfl (by decide) (by decide) (Nat.le_of_ble_eq_true rfl) (fun v hp4 hv _ _ => ?_) (fun E hp' zx _ _ => zx.elim)
          obtain ⟨rfl, hS4, fr4⟩ := hv
          show qq_Go _ hp4 (0) (0) 43 [(0, .ref 84), (1, .int one), (2, .int other), (3, .int into)] [.int (r_X7_orderOf other one ((r_X7_isRefused (0 : Int32) (0 : Int32) S).2)), .ref 84] _ _
          refine qq_if_ge (tgt := 50) dX7_lesser_43 (by decide) (fun zc7 => ?_) (fun zc7 => ?_)
          · refine qq_iload_n dX7_lesser_50 rfl 1 rfl ?_
            refine qq_iload_n dX7_lesser_51 rfl 3 rfl ?_
            refine qq_less (bc' := 0 + 0) (bs' := 0 + 0) (by omega) (by omega) ?_
            refine qq_callV (bc := 0) (bs := 0) (mc := 0) (ms := 0) (o := 84) (ci := 4) (N := 11) (T := TX7) (as := [.int one, .int into]) (rest := []) dX7_lesser_52 hS4.2.2.1 (by decide) rfl (mt_X7_take hp4 A ((r_X7_isRefused (0 : Int32) (0 : Int32) S).2) hS4 one into zv1 zv3) rfl kl_X7_171 kn_X7_take ke_X7_take ki_X7 kc_X7_take kd_X7_take rfl (by decide) (by decide) (Nat.le_of_ble_eq_true rfl) (fun v hp5 hv _ _ => ?_) (fun E hp' zx _ _ => zx.elim)
            obtain ⟨rfl, hS5, fr5⟩ := hv
            show qq_Go _ hp5 (0) (0) 55 [(0, .ref 84), (1, .int one), (2, .int other), (3, .int into)] [.int ((r_X7_take one into ((r_X7_isRefused (0 : Int32) (0 : Int32) S).2)).1)] _ _
            have ze : r_X7_lesser one other into S = ((r_X7_take one into ((r_X7_isRefused (0 : Int32) (0 : Int32) S).2)).1, (r_X7_take one into ((r_X7_isRefused (0 : Int32) (0 : Int32) S).2)).2) := by
              rw [r_X7_lesser, if_pos zc1, if_pos zc3, if_pos zc5, if_pos zc6, if_pos zc7]
            exact qq_iret dX7_lesser_55 rfl rfl ⟨by rw [ze], by rw [ze]; first | exact ms_pr hS5 | exact hS5, (fr_t (fr_t fr3 fr4) fr5)⟩
          · refine qq_iload_n dX7_lesser_46 rfl 2 rfl ?_
            refine qq_goto (tgt := 51) dX7_lesser_47 (by decide) ?_
            refine qq_iload_n dX7_lesser_51 rfl 3 rfl ?_
            refine qq_less (bc' := 0 + 0) (bs' := 0 + 0) (by omega) (by omega) ?_
            refine qq_callV (bc := 0) (bs := 0) (mc := 0) (ms := 0) (o := 84) (ci := 4) (N := 11) (T := TX7) (as := [.int other, .int into]) (rest := []) dX7_lesser_52 hS4.2.2.1 (by decide) rfl (mt_X7_take hp4 A ((r_X7_isRefused (0 : Int32) (0 : Int32) S).2) hS4 other into zv2 zv3) rfl kl_X7_171 kn_X7_take ke_X7_take ki_X7 kc_X7_take kd_X7_take rfl (by decide) (by decide) (Nat.le_of_ble_eq_true rfl) (fun v hp6 hv _ _ => ?_) (fun E hp' zx _ _ => zx.elim)
            obtain ⟨rfl, hS6, fr6⟩ := hv
            show qq_Go _ hp6 (0) (0) 55 [(0, .ref 84), (1, .int one), (2, .int other), (3, .int into)] [.int ((r_X7_take other into ((r_X7_isRefused (0 : Int32) (0 : Int32) S).2)).1)] _ _
            have ze : r_X7_lesser one other into S = ((r_X7_take other into ((r_X7_isRefused (0 : Int32) (0 : Int32) S).2)).1, (r_X7_take other into ((r_X7_isRefused (0 : Int32) (0 : Int32) S).2)).2) := by
              rw [r_X7_lesser, if_pos zc1, if_pos zc3, if_pos zc5, if_pos zc6, if_neg zc7]
            exact qq_iret dX7_lesser_55 rfl rfl ⟨by rw [ze], by rw [ze]; first | exact ms_pr hS6 | exact hS6, (fr_t (fr_t fr3 fr4) fr6)⟩
        · exact absurd qx_0 zc6
      · refine qq_iconst (v := 1) dX7_lesser_22 (by decide) ?_
        refine qq_goto (tgt := 27) dX7_lesser_23 (by decide) ?_
        refine qq_iconst (v := 0) dX7_lesser_27 (by decide) ?_
        refine qq_less (bc' := 6 + 0) (bs' := 66 + 0) (by omega) (by omega) ?_
        refine qq_callV (bc := 6) (bs := 66) (mc := 0) (ms := 0) (o := 84) (ci := 4) (N := 11) (T := TX7) (as := [.int 1, .int 0]) (rest := []) dX7_lesser_28 hS.2.2.1 (by decide) rfl (mt_X7_isRefused hp A S hS (1 : Int32) (0 : Int32) ) rfl kl_X7_126 kn_X7_isRefused ke_X7_isRefused ki_X7 kc_X7_isRefused kd_X7_isRefused rfl (by decide) (by decide) (Nat.le_of_ble_eq_true rfl) (fun v hp7 hv _ _ => ?_) (fun E hp' zx _ _ => zx.elim)
        obtain ⟨rfl, hS7, fr7⟩ := hv
        show qq_Go _ hp7 (6) (66) 31 [(0, .ref 84), (1, .int one), (2, .int other), (3, .int into)] [.int ((r_X7_isRefused (1 : Int32) (0 : Int32) S).1)] _ _
        refine qq_if_eq (tgt := 36) dX7_lesser_31 (by decide) (fun zc8 => ?_) (fun zc8 => ?_)
        · exact absurd zc8 qx_1
        · refine qq_iconst (v := 0) dX7_lesser_34 (by decide) ?_
          have ze : r_X7_lesser one other into S = (0, (r_X7_isRefused (1 : Int32) (0 : Int32) S).2) := by
            rw [r_X7_lesser, if_pos zc1, if_pos zc3, if_neg zc5, if_neg zc8]
          exact qq_iret dX7_lesser_35 rfl rfl ⟨by rw [ze], by rw [ze]; first | exact ms_pr hS7 | exact hS7, fr7⟩
def lf_X7_end_19 (isG : Int32) (into : Int32)  : Nat → Int32 → Int32 → sM → Int32 × Int32
  | 0, bs9, k9, S => (bs9, k9)
  | fu + 1, bs9, k9, S => if 8 ≤ k9 then (bs9, k9) else if isG = 0 then if 0 ≤ (r_X7_orderOf k9 bs9 S) then lf_X7_end_19 isG into fu bs9 (k9 + 1) S else lf_X7_end_19 isG into fu k9 (k9 + 1) S else if 0 ≤ (r_X7_orderOf bs9 k9 S) then lf_X7_end_19 isG into fu bs9 (k9 + 1) S else lf_X7_end_19 isG into fu k9 (k9 + 1) S
set_option maxRecDepth 4000 in
theorem lq_X7_end_19 (isG : Int32) (into : Int32) (A : qA) (S : sM)  (zI : IM S) {P : Option Value → qq_H → Prop} {PX : String → qq_H → Prop} : ∀ (fu : Nat) (bs9 : Int32) (k9 : Int32) (hp : qq_H) , ms_M A S hp → vp_in bs9 8 → ¬ k9 < 0 → ((8 : Int32).toInt - k9.toInt).toNat < fu → ∀ (bc bs : Nat), (∀ hp' : qq_H, ms_M A S hp' → fr A hp hp' → qq_Go mX7_end hp' bc bs 62 [(0, .ref 84), (1, .int isG), (2, .int into), (3, .int ((lf_X7_end_19 isG into fu bs9 k9 S).1))] [] P PX) → qq_Go mX7_end hp (6 * fu + bc) (66 * fu + bs) 19 [(0, .ref 84), (1, .int isG), (2, .int into), (3, .int bs9), (4, .int k9)] [] P PX := by
  intro fu
  induction fu with
  | zero => intro bs9 k9 hp hS zb zp zz; exact absurd zz (Nat.not_lt_zero _)
  | succ fu lqih =>
    intro bs9 k9 hp hS zb zp zh bc bs hk
    refine qq_iload dX7_end_19 4 rfl ?_
    refine qq_bipush (v := 8) dX7_end_21 (by decide) ?_
    refine qq_icmp_ge (tgt := 62) dX7_end_23 (by decide) (fun zc1 => ?_) (fun zc1 => ?_)
    · have ze : lf_X7_end_19 isG into (fu + 1) bs9 k9 S = (bs9, k9) := by
        rw [lf_X7_end_19, if_pos zc1]
      rw [ze] at hk
      refine qq_loc [0, 1, 2, 3] rfl ?_
      refine qq_less (bc' := bc) (bs' := bs) (by omega) (by omega) ?_
      exact hk hp hS (fr_r _ _)
    · refine qq_iload_n dX7_end_26 rfl 1 rfl ?_
      refine qq_if_eq (tgt := 43) dX7_end_27 (by decide) (fun zc2 => ?_) (fun zc2 => ?_)
      · refine qq_aload_n dX7_end_43 rfl 0 rfl ?_
        refine qq_iload dX7_end_44 4 rfl ?_
        refine qq_iload_n dX7_end_46 rfl 3 rfl ?_
        refine qq_less (bc' := 6 * fu + bc + 6) (bs' := 66 * fu + bs + 66) (by omega) (by omega) ?_
        refine qq_callV (bc := 6 * fu + bc) (bs := 66 * fu + bs) (mc := 6) (ms := 66) (o := 84) (ci := 4) (N := 11) (T := TX7) (as := [.int k9, .int bs9]) (rest := []) dX7_end_47 hS.2.2.1 (by decide) rfl (mt_X7_orderOf hp A S hS k9 bs9 (qm_in8 zp zc1) zb zI) rfl kl_X7_168 kn_X7_orderOf ke_X7_orderOf ki_X7 kc_X7_orderOf kd_X7_orderOf rfl (by decide) (by decide) (Nat.le_of_ble_eq_true rfl) (fun v hp1 hv _ _ => ?_) (fun E hp' zx _ _ => zx.elim)
        obtain ⟨rfl, hS1, fr1⟩ := hv
        show qq_Go _ hp1 (6 * fu + bc) (66 * fu + bs) 50 [(0, .ref 84), (1, .int isG), (2, .int into), (3, .int bs9), (4, .int k9)] [.int (r_X7_orderOf k9 bs9 S)] _ _
        refine qq_if_ge (tgt := 56) dX7_end_50 (by decide) (fun zc3 => ?_) (fun zc3 => ?_)
        · refine qq_iinc (v := k9 + 1) (loc' := [(0, .ref 84), (1, .int isG), (2, .int into), (3, .int bs9), (4, .int (k9 + 1))]) dX7_end_56 4 rfl rfl [1, 2, 3, 4, 0] (Nat.le_of_ble_eq_true rfl) rfl ?_
          refine qq_goto (tgt := 19) dX7_end_59 (by decide) ?_
          have ze : lf_X7_end_19 isG into (fu + 1) bs9 k9 S = lf_X7_end_19 isG into fu bs9 (k9 + 1) S := by
            rw [lf_X7_end_19, if_neg zc1, if_pos zc2, if_pos zc3]
          rw [ze] at hk
          refine qq_less (bc' := 6 * fu + bc) (bs' := 66 * fu + bs) (by omega) (by omega) ?_
          exact lqih bs9 (k9 + 1) hp1 hS1 (by first | exact zb | exact qm_in8 zp (by assumption)) (qm_pos zp (by assumption)) (qm_up (by assumption) zh) bc bs (fun hq h1 h2 => hk hq h1 (fr_t fr1 h2))
        · refine qq_iload dX7_end_53 4 rfl ?_
          refine qq_istore_n (loc' := [(0, .ref 84), (1, .int isG), (2, .int into), (3, .int k9), (4, .int k9)]) dX7_end_55 rfl [1, 2, 3, 0, 4] (Nat.le_of_ble_eq_true rfl) rfl ?_
          refine qq_iinc (v := k9 + 1) (loc' := [(0, .ref 84), (1, .int isG), (2, .int into), (3, .int k9), (4, .int (k9 + 1))]) dX7_end_56 4 rfl rfl [1, 2, 3, 4, 0] (Nat.le_of_ble_eq_true rfl) rfl ?_
          refine qq_goto (tgt := 19) dX7_end_59 (by decide) ?_
          have ze : lf_X7_end_19 isG into (fu + 1) bs9 k9 S = lf_X7_end_19 isG into fu k9 (k9 + 1) S := by
            rw [lf_X7_end_19, if_neg zc1, if_pos zc2, if_neg zc3]
          rw [ze] at hk
          refine qq_less (bc' := 6 * fu + bc) (bs' := 66 * fu + bs) (by omega) (by omega) ?_
          exact lqih k9 (k9 + 1) hp1 hS1 (by first | exact zb | exact qm_in8 zp (by assumption)) (qm_pos zp (by assumption)) (qm_up (by assumption) zh) bc bs (fun hq h1 h2 => hk hq h1 (fr_t fr1 h2))
      · refine qq_aload_n dX7_end_30 rfl 0 rfl ?_
        refine qq_iload_n dX7_end_31 rfl 3 rfl ?_
        refine qq_iload dX7_end_32 4 rfl ?_
        refine qq_less (bc' := 6 * fu + bc + 6) (bs' := 66 * fu + bs + 66) (by omega) (by omega) ?_
        refine qq_callV (bc := 6 * fu + bc) (bs := 66 * fu + bs) (mc := 6) (ms := 66) (o := 84) (ci := 4) (N := 11) (T := TX7) (as := [.int bs9, .int k9]) (rest := []) dX7_end_34 hS.2.2.1 (by decide) rfl (mt_X7_orderOf hp A S hS bs9 k9 zb (qm_in8 zp zc1) zI) rfl kl_X7_168 kn_X7_orderOf ke_X7_orderOf ki_X7 kc_X7_orderOf kd_X7_orderOf rfl (by decide) (by decide) (Nat.le_of_ble_eq_true rfl) (fun v hp2 hv _ _ => ?_) (fun E hp' zx _ _ => zx.elim)
        obtain ⟨rfl, hS2, fr2⟩ := hv
        show qq_Go _ hp2 (6 * fu + bc) (66 * fu + bs) 37 [(0, .ref 84), (1, .int isG), (2, .int into), (3, .int bs9), (4, .int k9)] [.int (r_X7_orderOf bs9 k9 S)] _ _
        refine qq_if_ge (tgt := 56) dX7_end_37 (by decide) (fun zc4 => ?_) (fun zc4 => ?_)
        · refine qq_iinc (v := k9 + 1) (loc' := [(0, .ref 84), (1, .int isG), (2, .int into), (3, .int bs9), (4, .int (k9 + 1))]) dX7_end_56 4 rfl rfl [1, 2, 3, 4, 0] (Nat.le_of_ble_eq_true rfl) rfl ?_
          refine qq_goto (tgt := 19) dX7_end_59 (by decide) ?_
          have ze : lf_X7_end_19 isG into (fu + 1) bs9 k9 S = lf_X7_end_19 isG into fu bs9 (k9 + 1) S := by
            rw [lf_X7_end_19, if_neg zc1, if_neg zc2, if_pos zc4]
          rw [ze] at hk
          refine qq_less (bc' := 6 * fu + bc) (bs' := 66 * fu + bs) (by omega) (by omega) ?_
          exact lqih bs9 (k9 + 1) hp2 hS2 (by first | exact zb | exact qm_in8 zp (by assumption)) (qm_pos zp (by assumption)) (qm_up (by assumption) zh) bc bs (fun hq h1 h2 => hk hq h1 (fr_t fr2 h2))
        · refine qq_goto (tgt := 53) dX7_end_40 (by decide) ?_
          refine qq_iload dX7_end_53 4 rfl ?_
          refine qq_istore_n (loc' := [(0, .ref 84), (1, .int isG), (2, .int into), (3, .int k9), (4, .int k9)]) dX7_end_55 rfl [1, 2, 3, 0, 4] (Nat.le_of_ble_eq_true rfl) rfl ?_
          refine qq_iinc (v := k9 + 1) (loc' := [(0, .ref 84), (1, .int isG), (2, .int into), (3, .int k9), (4, .int (k9 + 1))]) dX7_end_56 4 rfl rfl [1, 2, 3, 4, 0] (Nat.le_of_ble_eq_true rfl) rfl ?_
          refine qq_goto (tgt := 19) dX7_end_59 (by decide) ?_
          have ze : lf_X7_end_19 isG into (fu + 1) bs9 k9 S = lf_X7_end_19 isG into fu k9 (k9 + 1) S := by
            rw [lf_X7_end_19, if_neg zc1, if_neg zc2, if_neg zc4]
          rw [ze] at hk
          refine qq_less (bc' := 6 * fu + bc) (bs' := 66 * fu + bs) (by omega) (by omega) ?_
          exact lqih k9 (k9 + 1) hp2 hS2 (by first | exact zb | exact qm_in8 zp (by assumption)) (qm_pos zp (by assumption)) (qm_up (by assumption) zh) bc bs (fun hq h1 h2 => hk hq h1 (fr_t fr2 h2))
theorem lz_X7_end_19 (isG into : Int32) : ∀ (fu : Nat) (bs9 k9 : Int32) (S : sM), vp_in bs9 8 → ¬ k9 < 0 → vp_in (lf_X7_end_19 isG into fu bs9 k9 S).1 8
  | 0, _, _, _, h, _ => h
  | fu + 1, bs9, k9, S, h, hp => by
    rw [lf_X7_end_19]
    (repeat' split) <;> first | exact h | exact lz_X7_end_19 isG into fu _ _ S h (qm_pos hp (by assumption)) | exact lz_X7_end_19 isG into fu _ _ S (qm_in8 hp (by assumption)) (qm_pos hp (by assumption))
def r_X7_end (isG : Int32) (into : Int32)  (S : sM) : Int32 × sM := if ((r_X7_isRefused (f_X7_isNoCell into) (0 : Int32) S).1) = 0 then ((r_X7_take ((lf_X7_end_19 isG into 9 (0 : Int32) (1 : Int32) ((r_X7_isRefused (f_X7_isNoCell into) (0 : Int32) S).2)).1) into ((r_X7_isRefused (f_X7_isNoCell into) (0 : Int32) S).2)).1, (r_X7_take ((lf_X7_end_19 isG into 9 (0 : Int32) (1 : Int32) ((r_X7_isRefused (f_X7_isNoCell into) (0 : Int32) S).2)).1) into ((r_X7_isRefused (f_X7_isNoCell into) (0 : Int32) S).2)).2) else (0, (r_X7_isRefused (f_X7_isNoCell into) (0 : Int32) S).2)
set_option maxRecDepth 4000 in
theorem mt_X7_end (hp : qq_H) (A : qA) (S : sM) (hS : ms_M A S hp) (isG : Int32) (into : Int32)     (zI : IM S) : qq_Mt mX7_end [.ref 84, .int isG, .int into] hp 54 594 (fun v hp' => v = some (.int ((r_X7_end isG into S).1)) ∧ ms_M A ((r_X7_end isG into S).2) hp' ∧ fr A hp hp') (fun _ _ => False) := by
  refine qq_met pn_X7 (Nat.le_of_ble_eq_true rfl) (Nat.le_of_ble_eq_true rfl) kc_X7_end ?_
  show qq_Go _ hp 54 594 0 [(0, .ref 84), (1, .int isG), (2, .int into)] [] _ _
  refine qq_aload_n dX7_end_0 rfl 0 rfl ?_
  refine qq_iload_n dX7_end_1 rfl 2 rfl ?_
  refine qq_less (bc' := 54 + 0) (bs' := 594 + 0) (by omega) (by omega) ?_
  refine qq_callS (bc := 54) (bs := 594) (mc := 0) (ms := 0) (as := [.int into]) (rest := [.ref 84]) dX7_end_2 (mt_X7_isNoCell hp into) rfl kl_X7_123 ks_X7_isNoCell ki_X7 kc_X7_isNoCell kd_X7_isNoCell rfl (by decide) (by decide) (Nat.le_of_ble_eq_true rfl) (fun v hp' hv _ _ => ?_) (fun E hp' zx _ _ => zx.elim)
  obtain ⟨rfl, rfl⟩ := hv
  show qq_Go _ hp (54) (594) 5 [(0, .ref 84), (1, .int isG), (2, .int into)] [.int (f_X7_isNoCell into), .ref 84] _ _
  refine qq_iconst (v := 0) dX7_end_5 (by decide) ?_
  refine qq_less (bc' := 54 + 0) (bs' := 594 + 0) (by omega) (by omega) ?_
  refine qq_callV (bc := 54) (bs := 594) (mc := 0) (ms := 0) (o := 84) (ci := 4) (N := 11) (T := TX7) (as := [.int (f_X7_isNoCell into), .int 0]) (rest := []) dX7_end_6 hS.2.2.1 (by decide) rfl (mt_X7_isRefused hp A S hS (f_X7_isNoCell into) (0 : Int32) ) rfl kl_X7_126 kn_X7_isRefused ke_X7_isRefused ki_X7 kc_X7_isRefused kd_X7_isRefused rfl (by decide) (by decide) (Nat.le_of_ble_eq_true rfl) (fun v hp1 hv _ _ => ?_) (fun E hp' zx _ _ => zx.elim)
  obtain ⟨rfl, hS1, fr1⟩ := hv
  show qq_Go _ hp1 (54) (594) 9 [(0, .ref 84), (1, .int isG), (2, .int into)] [.int ((r_X7_isRefused (f_X7_isNoCell into) (0 : Int32) S).1)] _ _
  refine qq_if_eq (tgt := 14) dX7_end_9 (by decide) (fun zc1 => ?_) (fun zc1 => ?_)
  · have zv1 := qx_cell (qx_ref zc1)
    refine qq_iconst (v := 0) dX7_end_14 (by decide) ?_
    refine qq_istore_n (loc' := [(0, .ref 84), (1, .int isG), (2, .int into), (3, .int 0)]) dX7_end_15 rfl [1, 2, 3, 0] (Nat.le_of_ble_eq_true rfl) rfl ?_
    refine qq_iconst (v := 1) dX7_end_16 (by decide) ?_
    refine qq_istore (loc' := [(0, .ref 84), (1, .int isG), (2, .int into), (3, .int 0), (4, .int 1)]) dX7_end_17 [1, 2, 3, 4, 0] (Nat.le_of_ble_eq_true rfl) rfl ?_
    refine qq_less (bc' := 0 + 54) (bs' := 0 + 594) (by omega) (by omega) ?_
    refine qq_less (bc' := 6 * 9 + (0)) (bs' := 66 * 9 + (0)) (by omega) (by omega) ?_
    refine lq_X7_end_19 isG into A ((r_X7_isRefused (f_X7_isNoCell into) (0 : Int32) S).2) (im_ref zI) 9 (0 : Int32) (1 : Int32) hp1 hS1 (vp_d (by decide)) (by decide) (by decide) (0) (0) (fun hp2 hS2 fr2 => ?_)
    show qq_Go _ hp2 (0) (0) 62 [(0, .ref 84), (1, .int isG), (2, .int into), (3, .int ((lf_X7_end_19 isG into 9 (0 : Int32) (1 : Int32) ((r_X7_isRefused (f_X7_isNoCell into) (0 : Int32) S).2)).1))] [] _ _
    refine qq_aload_n dX7_end_62 rfl 0 rfl ?_
    refine qq_iload_n dX7_end_63 rfl 3 rfl ?_
    refine qq_iload_n dX7_end_64 rfl 2 rfl ?_
    refine qq_less (bc' := 0 + 0) (bs' := 0 + 0) (by omega) (by omega) ?_
    refine qq_callV (bc := 0) (bs := 0) (mc := 0) (ms := 0) (o := 84) (ci := 4) (N := 11) (T := TX7) (as := [.int ((lf_X7_end_19 isG into 9 (0 : Int32) (1 : Int32) ((r_X7_isRefused (f_X7_isNoCell into) (0 : Int32) S).2)).1), .int into]) (rest := []) dX7_end_65 hS2.2.2.1 (by decide) rfl (mt_X7_take hp2 A ((r_X7_isRefused (f_X7_isNoCell into) (0 : Int32) S).2) hS2 ((lf_X7_end_19 isG into 9 (0 : Int32) (1 : Int32) ((r_X7_isRefused (f_X7_isNoCell into) (0 : Int32) S).2)).1) into (lz_X7_end_19 _ _ _ _ _ _ (vp_d (by decide)) (by decide)) zv1) rfl kl_X7_171 kn_X7_take ke_X7_take ki_X7 kc_X7_take kd_X7_take rfl (by decide) (by decide) (Nat.le_of_ble_eq_true rfl) (fun v hp3 hv _ _ => ?_) (fun E hp' zx _ _ => zx.elim)
    obtain ⟨rfl, hS3, fr3⟩ := hv
    show qq_Go _ hp3 (0) (0) 68 [(0, .ref 84), (1, .int isG), (2, .int into), (3, .int ((lf_X7_end_19 isG into 9 (0 : Int32) (1 : Int32) ((r_X7_isRefused (f_X7_isNoCell into) (0 : Int32) S).2)).1))] [.int ((r_X7_take ((lf_X7_end_19 isG into 9 (0 : Int32) (1 : Int32) ((r_X7_isRefused (f_X7_isNoCell into) (0 : Int32) S).2)).1) into ((r_X7_isRefused (f_X7_isNoCell into) (0 : Int32) S).2)).1)] _ _
    have ze : r_X7_end isG into S = ((r_X7_take ((lf_X7_end_19 isG into 9 (0 : Int32) (1 : Int32) ((r_X7_isRefused (f_X7_isNoCell into) (0 : Int32) S).2)).1) into ((r_X7_isRefused (f_X7_isNoCell into) (0 : Int32) S).2)).1, (r_X7_take ((lf_X7_end_19 isG into 9 (0 : Int32) (1 : Int32) ((r_X7_isRefused (f_X7_isNoCell into) (0 : Int32) S).2)).1) into ((r_X7_isRefused (f_X7_isNoCell into) (0 : Int32) S).2)).2) := by
      rw [r_X7_end, if_pos zc1]
    exact qq_iret dX7_end_68 rfl rfl ⟨by rw [ze], by rw [ze]; first | exact ms_pr hS3 | exact hS3, (fr_t (fr_t fr1 fr2) fr3)⟩
  · refine qq_iconst (v := 0) dX7_end_12 (by decide) ?_
    have ze : r_X7_end isG into S = (0, (r_X7_isRefused (f_X7_isNoCell into) (0 : Int32) S).2) := by
      rw [r_X7_end, if_neg zc1]
    exact qq_iret dX7_end_13 rfl rfl ⟨by rw [ze], by rw [ze]; first | exact ms_pr hS1 | exact hS1, fr1⟩
def lf_X7_rank_18 (cell : Int32)  : Nat → Int32 → Int32 → sM → Int32 × Int32
  | 0, mn9, k9, S => (mn9, k9)
  | fu + 1, mn9, k9, S => if 8 ≤ k9 then (mn9, k9) else if 0 ≤ (r_X7_orderOf k9 cell S) then lf_X7_rank_18 cell fu (mn9 + 0) (k9 + 1) S else lf_X7_rank_18 cell fu (mn9 + 1) (k9 + 1) S
set_option maxRecDepth 4000 in
theorem lq_X7_rank_18 (cell : Int32) (A : qA) (S : sM)  (zI : IM S) (zc9 : vp_in cell 8) {P : Option Value → qq_H → Prop} {PX : String → qq_H → Prop} : ∀ (fu : Nat) (mn9 : Int32) (k9 : Int32) (hp : qq_H) , ms_M A S hp → ¬ k9 < 0 → ((8 : Int32).toInt - k9.toInt).toNat < fu → ∀ (bc bs : Nat), (∀ hp' : qq_H, ms_M A S hp' → fr A hp hp' → qq_Go mX7_rank hp' bc bs 47 [(0, .ref 84), (1, .int cell), (2, .int ((lf_X7_rank_18 cell fu mn9 k9 S).1))] [] P PX) → qq_Go mX7_rank hp (6 * fu + bc) (66 * fu + bs) 18 [(0, .ref 84), (1, .int cell), (2, .int mn9), (3, .int k9)] [] P PX := by
  intro fu
  induction fu with
  | zero => intro mn9 k9 hp hS zp zz; exact absurd zz (Nat.not_lt_zero _)
  | succ fu lqih =>
    intro mn9 k9 hp hS zp zh bc bs hk
    refine qq_iload_n dX7_rank_18 rfl 3 rfl ?_
    refine qq_bipush (v := 8) dX7_rank_19 (by decide) ?_
    refine qq_icmp_ge (tgt := 47) dX7_rank_21 (by decide) (fun zc1 => ?_) (fun zc1 => ?_)
    · have ze : lf_X7_rank_18 cell (fu + 1) mn9 k9 S = (mn9, k9) := by
        rw [lf_X7_rank_18, if_pos zc1]
      rw [ze] at hk
      refine qq_loc [0, 1, 2] rfl ?_
      refine qq_less (bc' := bc) (bs' := bs) (by omega) (by omega) ?_
      exact hk hp hS (fr_r _ _)
    · refine qq_iload_n dX7_rank_24 rfl 2 rfl ?_
      refine qq_aload_n dX7_rank_25 rfl 0 rfl ?_
      refine qq_iload_n dX7_rank_26 rfl 3 rfl ?_
      refine qq_iload_n dX7_rank_27 rfl 1 rfl ?_
      refine qq_less (bc' := 6 * fu + bc + 6) (bs' := 66 * fu + bs + 66) (by omega) (by omega) ?_
      refine qq_callV (bc := 6 * fu + bc) (bs := 66 * fu + bs) (mc := 6) (ms := 66) (o := 84) (ci := 4) (N := 11) (T := TX7) (as := [.int k9, .int cell]) (rest := [.int mn9]) dX7_rank_28 hS.2.2.1 (by decide) rfl (mt_X7_orderOf hp A S hS k9 cell (qm_in8 zp zc1) zc9 zI) rfl kl_X7_168 kn_X7_orderOf ke_X7_orderOf ki_X7 kc_X7_orderOf kd_X7_orderOf rfl (by decide) (by decide) (Nat.le_of_ble_eq_true rfl) (fun v hp1 hv _ _ => ?_) (fun E hp' zx _ _ => zx.elim)
      obtain ⟨rfl, hS1, fr1⟩ := hv
      show qq_Go _ hp1 (6 * fu + bc) (66 * fu + bs) 31 [(0, .ref 84), (1, .int cell), (2, .int mn9), (3, .int k9)] [.int (r_X7_orderOf k9 cell S), .int mn9] _ _
      refine qq_if_ge (tgt := 38) dX7_rank_31 (by decide) (fun zc2 => ?_) (fun zc2 => ?_)
      · refine qq_iconst (v := 0) dX7_rank_38 (by decide) ?_
        refine qq_iadd dX7_rank_39 ?_
        refine qq_istore_n (loc' := [(0, .ref 84), (1, .int cell), (2, .int (mn9 + 0)), (3, .int k9)]) dX7_rank_40 rfl [1, 2, 0, 3] (Nat.le_of_ble_eq_true rfl) rfl ?_
        refine qq_iinc (v := k9 + 1) (loc' := [(0, .ref 84), (1, .int cell), (2, .int (mn9 + 0)), (3, .int (k9 + 1))]) dX7_rank_41 3 rfl rfl [1, 2, 3, 0] (Nat.le_of_ble_eq_true rfl) rfl ?_
        refine qq_goto (tgt := 18) dX7_rank_44 (by decide) ?_
        have ze : lf_X7_rank_18 cell (fu + 1) mn9 k9 S = lf_X7_rank_18 cell fu (mn9 + 0) (k9 + 1) S := by
          rw [lf_X7_rank_18, if_neg zc1, if_pos zc2]
        rw [ze] at hk
        refine qq_less (bc' := 6 * fu + bc) (bs' := 66 * fu + bs) (by omega) (by omega) ?_
        exact lqih (mn9 + 0) (k9 + 1) hp1 hS1 (qm_pos zp (by assumption)) (qm_up (by assumption) zh) bc bs (fun hq h1 h2 => hk hq h1 (fr_t fr1 h2))
      · refine qq_iconst (v := 1) dX7_rank_34 (by decide) ?_
        refine qq_goto (tgt := 39) dX7_rank_35 (by decide) ?_
        refine qq_iadd dX7_rank_39 ?_
        refine qq_istore_n (loc' := [(0, .ref 84), (1, .int cell), (2, .int (mn9 + 1)), (3, .int k9)]) dX7_rank_40 rfl [1, 2, 0, 3] (Nat.le_of_ble_eq_true rfl) rfl ?_
        refine qq_iinc (v := k9 + 1) (loc' := [(0, .ref 84), (1, .int cell), (2, .int (mn9 + 1)), (3, .int (k9 + 1))]) dX7_rank_41 3 rfl rfl [1, 2, 3, 0] (Nat.le_of_ble_eq_true rfl) rfl ?_
        refine qq_goto (tgt := 18) dX7_rank_44 (by decide) ?_
        have ze : lf_X7_rank_18 cell (fu + 1) mn9 k9 S = lf_X7_rank_18 cell fu (mn9 + 1) (k9 + 1) S := by
          rw [lf_X7_rank_18, if_neg zc1, if_neg zc2]
        rw [ze] at hk
        refine qq_less (bc' := 6 * fu + bc) (bs' := 66 * fu + bs) (by omega) (by omega) ?_
        exact lqih (mn9 + 1) (k9 + 1) hp1 hS1 (qm_pos zp (by assumption)) (qm_up (by assumption) zh) bc bs (fun hq h1 h2 => hk hq h1 (fr_t fr1 h2))
def r_X7_rank (cell : Int32)  (S : sM) : Int32 × sM := if ((r_X7_isRefused (f_X7_isNoCell cell) (0 : Int32) S).1) = 0 then ((lf_X7_rank_18 cell 9 (0 : Int32) (0 : Int32) ((r_X7_isRefused (f_X7_isNoCell cell) (0 : Int32) S).2)).1, (r_X7_isRefused (f_X7_isNoCell cell) (0 : Int32) S).2) else (0, (r_X7_isRefused (f_X7_isNoCell cell) (0 : Int32) S).2)
set_option maxRecDepth 4000 in
theorem mt_X7_rank (hp : qq_H) (A : qA) (S : sM) (hS : ms_M A S hp) (cell : Int32)     (zI : IM S) : qq_Mt mX7_rank [.ref 84, .int cell] hp 54 594 (fun v hp' => v = some (.int ((r_X7_rank cell S).1)) ∧ ms_M A ((r_X7_rank cell S).2) hp' ∧ fr A hp hp') (fun _ _ => False) := by
  refine qq_met pn_X7 (Nat.le_of_ble_eq_true rfl) (Nat.le_of_ble_eq_true rfl) kc_X7_rank ?_
  show qq_Go _ hp 54 594 0 [(0, .ref 84), (1, .int cell)] [] _ _
  refine qq_aload_n dX7_rank_0 rfl 0 rfl ?_
  refine qq_iload_n dX7_rank_1 rfl 1 rfl ?_
  refine qq_less (bc' := 54 + 0) (bs' := 594 + 0) (by omega) (by omega) ?_
  refine qq_callS (bc := 54) (bs := 594) (mc := 0) (ms := 0) (as := [.int cell]) (rest := [.ref 84]) dX7_rank_2 (mt_X7_isNoCell hp cell) rfl kl_X7_123 ks_X7_isNoCell ki_X7 kc_X7_isNoCell kd_X7_isNoCell rfl (by decide) (by decide) (Nat.le_of_ble_eq_true rfl) (fun v hp' hv _ _ => ?_) (fun E hp' zx _ _ => zx.elim)
  obtain ⟨rfl, rfl⟩ := hv
  show qq_Go _ hp (54) (594) 5 [(0, .ref 84), (1, .int cell)] [.int (f_X7_isNoCell cell), .ref 84] _ _
  refine qq_iconst (v := 0) dX7_rank_5 (by decide) ?_
  refine qq_less (bc' := 54 + 0) (bs' := 594 + 0) (by omega) (by omega) ?_
  refine qq_callV (bc := 54) (bs := 594) (mc := 0) (ms := 0) (o := 84) (ci := 4) (N := 11) (T := TX7) (as := [.int (f_X7_isNoCell cell), .int 0]) (rest := []) dX7_rank_6 hS.2.2.1 (by decide) rfl (mt_X7_isRefused hp A S hS (f_X7_isNoCell cell) (0 : Int32) ) rfl kl_X7_126 kn_X7_isRefused ke_X7_isRefused ki_X7 kc_X7_isRefused kd_X7_isRefused rfl (by decide) (by decide) (Nat.le_of_ble_eq_true rfl) (fun v hp1 hv _ _ => ?_) (fun E hp' zx _ _ => zx.elim)
  obtain ⟨rfl, hS1, fr1⟩ := hv
  show qq_Go _ hp1 (54) (594) 9 [(0, .ref 84), (1, .int cell)] [.int ((r_X7_isRefused (f_X7_isNoCell cell) (0 : Int32) S).1)] _ _
  refine qq_if_eq (tgt := 14) dX7_rank_9 (by decide) (fun zc1 => ?_) (fun zc1 => ?_)
  · have zv1 := qx_cell (qx_ref zc1)
    refine qq_iconst (v := 0) dX7_rank_14 (by decide) ?_
    refine qq_istore_n (loc' := [(0, .ref 84), (1, .int cell), (2, .int 0)]) dX7_rank_15 rfl [1, 2, 0] (Nat.le_of_ble_eq_true rfl) rfl ?_
    refine qq_iconst (v := 0) dX7_rank_16 (by decide) ?_
    refine qq_istore_n (loc' := [(0, .ref 84), (1, .int cell), (2, .int 0), (3, .int 0)]) dX7_rank_17 rfl [1, 2, 3, 0] (Nat.le_of_ble_eq_true rfl) rfl ?_
    refine qq_less (bc' := 0 + 54) (bs' := 0 + 594) (by omega) (by omega) ?_
    refine qq_less (bc' := 6 * 9 + (0)) (bs' := 66 * 9 + (0)) (by omega) (by omega) ?_
    refine lq_X7_rank_18 cell A ((r_X7_isRefused (f_X7_isNoCell cell) (0 : Int32) S).2) (im_ref zI) zv1 9 (0 : Int32) (0 : Int32) hp1 hS1 (by decide) (by decide) (0) (0) (fun hp2 hS2 fr2 => ?_)
    show qq_Go _ hp2 (0) (0) 47 [(0, .ref 84), (1, .int cell), (2, .int ((lf_X7_rank_18 cell 9 (0 : Int32) (0 : Int32) ((r_X7_isRefused (f_X7_isNoCell cell) (0 : Int32) S).2)).1))] [] _ _
    refine qq_iload_n dX7_rank_47 rfl 2 rfl ?_
    have ze : r_X7_rank cell S = ((lf_X7_rank_18 cell 9 (0 : Int32) (0 : Int32) ((r_X7_isRefused (f_X7_isNoCell cell) (0 : Int32) S).2)).1, (r_X7_isRefused (f_X7_isNoCell cell) (0 : Int32) S).2) := by
      rw [r_X7_rank, if_pos zc1]
    exact qq_iret dX7_rank_48 rfl rfl ⟨by rw [ze], by rw [ze]; first | exact ms_pr hS2 | exact hS2, (fr_t fr1 fr2)⟩
  · refine qq_iconst (v := 0) dX7_rank_12 (by decide) ?_
    have ze : r_X7_rank cell S = (0, (r_X7_isRefused (f_X7_isNoCell cell) (0 : Int32) S).2) := by
      rw [r_X7_rank, if_neg zc1]
    exact qq_iret dX7_rank_13 rfl rfl ⟨by rw [ze], by rw [ze]; first | exact ms_pr hS1 | exact hS1, fr1⟩
def lf_X7_less_15 (how : Int32) (g29 : (Nat → Int32)) : Nat → Int32 → Int32 → sM → Int32 × Int32
  | 0, fr9, to9, S => (fr9, to9)
  | fu + 1, fr9, to9, S => if to9 ≤ fr9 then (fr9, to9) else if 0 ≤ (r_X7_compare (r_X7_trueIn how (f_J9_floorDiv_7cf53 (fr9 + to9) 2) S) g29) then lf_X7_less_15 how g29 fu fr9 (f_J9_floorDiv_7cf53 (fr9 + to9) 2) S else lf_X7_less_15 how g29 fu ((f_J9_floorDiv_7cf53 (fr9 + to9) 2) + 1) to9 S
set_option maxRecDepth 4000 in
theorem lq_X7_less_15 (how : Int32) (A : qA) (S : sM) (r29 : Nat) (g29 : (Nat → Int32)) (zw9 : vp_in how 4) {P : Option Value → qq_H → Prop} {PX : String → qq_H → Prop} : ∀ (fu : Nat) (fr9 : Int32) (to9 : Int32) (hp : qq_H) , ms_M A S hp → hp.2 r29 = .inl (0, 11, .inl g29) → r29 < hp.1 → ls_I how fr9 to9 → 0 < fu ∧ (to9.toInt - fr9.toInt).toNat < 2 ^ (fu - 1) → ∀ (bc bs : Nat), (∀ hp' : qq_H, ms_M A S hp' → fr A hp hp' → qq_Go mX7_less hp' bc bs 60 [(0, .ref 84), (1, .int how), (2, .ref r29), (3, .int ((lf_X7_less_15 how g29 fu fr9 to9 S).1))] [] P PX) → qq_Go mX7_less hp (3 * fu + bc) (33 * fu + bs) 15 [(0, .ref 84), (1, .int how), (2, .ref r29), (3, .int fr9), (4, .int to9)] [] P PX := by
  intro fu
  induction fu with
  | zero => intro fr9 to9 hp hS hr2 hl2 zL zz; exact absurd zz.1 (Nat.lt_irrefl 0)
  | succ fu lqih =>
    intro fr9 to9 hp hS hr2 hl2 zL zh bc bs hk
    refine qq_iload_n dX7_less_15 rfl 3 rfl ?_
    refine qq_iload dX7_less_16 4 rfl ?_
    refine qq_icmp_ge (tgt := 60) dX7_less_18 (by decide) (fun zc1 => ?_) (fun zc1 => ?_)
    · have ze : lf_X7_less_15 how g29 (fu + 1) fr9 to9 S = (fr9, to9) := by
        rw [lf_X7_less_15, if_pos zc1]
      rw [ze] at hk
      refine qq_loc [0, 1, 2, 3] rfl ?_
      refine qq_less (bc' := bc) (bs' := bs) (by omega) (by omega) ?_
      exact hk hp hS (fr_r _ _)
    · refine qq_iload_n dX7_less_21 rfl 3 rfl ?_
      refine qq_iload dX7_less_22 4 rfl ?_
      refine qq_iadd dX7_less_24 ?_
      refine qq_iconst (v := 2) dX7_less_25 (by decide) ?_
      refine qq_less (bc' := 3 * fu + bc + 3 + 0) (bs' := 33 * fu + bs + 33 + 0) (by omega) (by omega) ?_
      refine qq_callS (bc := 3 * fu + bc + 3) (bs := 33 * fu + bs + 33) (mc := 0) (ms := 0) (as := [.int (fr9 + to9), .int 2]) (rest := []) dX7_less_26 (mt_J9_floorDiv_7cf53 hp (fr9 + to9) (2 : Int32) (by decide)) rfl kl_X7_253 ks_J9_floorDiv_7cf53 ki_J9 kc_J9_floorDiv_7cf53 kd_J9_floorDiv_7cf53 rfl (by decide) (by decide) (Nat.le_of_ble_eq_true rfl) (fun v hp' hv _ _ => ?_) (fun E hp' zx _ _ => zx.elim)
      obtain ⟨rfl, rfl⟩ := hv
      show qq_Go _ hp (3 * fu + bc + 3) (33 * fu + bs + 33) 29 [(0, .ref 84), (1, .int how), (2, .ref r29), (3, .int fr9), (4, .int to9)] [.int (f_J9_floorDiv_7cf53 (fr9 + to9) 2)] _ _
      refine qq_istore (loc' := [(0, .ref 84), (1, .int how), (2, .ref r29), (3, .int fr9), (4, .int to9), (5, .int (f_J9_floorDiv_7cf53 (fr9 + to9) 2))]) dX7_less_29 [1, 2, 3, 4, 5, 0] (Nat.le_of_ble_eq_true rfl) rfl ?_
      refine qq_aload_n dX7_less_31 rfl 0 rfl ?_
      refine qq_iload_n dX7_less_32 rfl 1 rfl ?_
      refine qq_iload dX7_less_33 5 rfl ?_
      refine qq_less (bc' := 3 * fu + bc + 3) (bs' := 33 * fu + bs + 33) (by omega) (by omega) ?_
      refine qq_callV (bc := 3 * fu + bc) (bs := 33 * fu + bs) (mc := 3) (ms := 33) (o := 84) (ci := 4) (N := 11) (T := TX7) (as := [.int how, .int (f_J9_floorDiv_7cf53 (fr9 + to9) 2)]) (rest := []) dX7_less_35 hS.2.2.1 (by decide) rfl (mt_X7_trueIn hp A S hS how (f_J9_floorDiv_7cf53 (fr9 + to9) 2) (ls_at zw9 zL (by assumption))) rfl kl_X7_256 kn_X7_trueIn ke_X7_trueIn ki_X7 kc_X7_trueIn kd_X7_trueIn rfl (by decide) (by decide) (Nat.le_of_ble_eq_true rfl) (fun v hp1 hv _ _ => ?_) (fun E hp' zx _ _ => zx.elim)
      obtain ⟨rj1, rfl, hS1, fr1, hr_n1, hl_n1⟩ := hv
      have hr_1 := fr_w fr1 hS hl2 hr2 (by decide)
      have hl_1 := fr_l fr1 hl2
      show qq_Go _ hp1 (3 * fu + bc) (33 * fu + bs) 38 [(0, .ref 84), (1, .int how), (2, .ref r29), (3, .int fr9), (4, .int to9), (5, .int (f_J9_floorDiv_7cf53 (fr9 + to9) 2))] [.ref rj1] _ _
      refine qq_aload_n dX7_less_38 rfl 2 rfl ?_
      refine qq_less (bc' := 3 * fu + bc + 0) (bs' := 33 * fu + bs + 0) (by omega) (by omega) ?_
      refine qq_callS (bc := 3 * fu + bc) (bs := 33 * fu + bs) (mc := 0) (ms := 0) (as := [.ref rj1, .ref r29]) (rest := []) dX7_less_39 (mt_X7_compare hp1 rj1 r29 (r_X7_trueIn how (f_J9_floorDiv_7cf53 (fr9 + to9) 2) S) g29 hr_n1 hr_1 ) rfl kl_X7_106 ks_X7_compare ki_X7 kc_X7_compare kd_X7_compare rfl (by decide) (by decide) (Nat.le_of_ble_eq_true rfl) (fun v hp' hv _ _ => ?_) (fun E hp' zx _ _ => zx.elim)
      obtain ⟨rfl, rfl⟩ := hv
      show qq_Go _ hp1 (3 * fu + bc) (33 * fu + bs) 42 [(0, .ref 84), (1, .int how), (2, .ref r29), (3, .int fr9), (4, .int to9), (5, .int (f_J9_floorDiv_7cf53 (fr9 + to9) 2))] [.int (r_X7_compare (r_X7_trueIn how (f_J9_floorDiv_7cf53 (fr9 + to9) 2) S) g29)] _ _
      refine qq_if_ge (tgt := 53) dX7_less_42 (by decide) (fun zc2 => ?_) (fun zc2 => ?_)
      · refine qq_iload dX7_less_53 5 rfl ?_
        refine qq_istore (loc' := [(0, .ref 84), (1, .int how), (2, .ref r29), (3, .int fr9), (4, .int (f_J9_floorDiv_7cf53 (fr9 + to9) 2)), (5, .int (f_J9_floorDiv_7cf53 (fr9 + to9) 2))]) dX7_less_55 [1, 2, 3, 4, 0, 5] (Nat.le_of_ble_eq_true rfl) rfl ?_
        refine qq_goto (tgt := 15) dX7_less_57 (by decide) ?_
        have ze : lf_X7_less_15 how g29 (fu + 1) fr9 to9 S = lf_X7_less_15 how g29 fu fr9 (f_J9_floorDiv_7cf53 (fr9 + to9) 2) S := by
          rw [lf_X7_less_15, if_neg zc1, if_pos zc2]
        rw [ze] at hk
        refine qq_loc [0, 1, 2, 3, 4] rfl ?_
        refine qq_less (bc' := 3 * fu + bc) (bs' := 33 * fu + bs) (by omega) (by omega) ?_
        exact lqih fr9 (f_J9_floorDiv_7cf53 (fr9 + to9) 2) hp1 hS1 hr_1 hl_1 (ls_id zw9 zL (by assumption)) (ls_dn zw9 zL (by assumption) zh) bc bs (fun hq h1 h2 => hk hq h1 (fr_t fr1 h2))
      · refine qq_iload dX7_less_45 5 rfl ?_
        refine qq_iconst (v := 1) dX7_less_47 (by decide) ?_
        refine qq_iadd dX7_less_48 ?_
        refine qq_istore_n (loc' := [(0, .ref 84), (1, .int how), (2, .ref r29), (3, .int ((f_J9_floorDiv_7cf53 (fr9 + to9) 2) + 1)), (4, .int to9), (5, .int (f_J9_floorDiv_7cf53 (fr9 + to9) 2))]) dX7_less_49 rfl [1, 2, 3, 0, 4, 5] (Nat.le_of_ble_eq_true rfl) rfl ?_
        refine qq_goto (tgt := 57) dX7_less_50 (by decide) ?_
        refine qq_goto (tgt := 15) dX7_less_57 (by decide) ?_
        have ze : lf_X7_less_15 how g29 (fu + 1) fr9 to9 S = lf_X7_less_15 how g29 fu ((f_J9_floorDiv_7cf53 (fr9 + to9) 2) + 1) to9 S := by
          rw [lf_X7_less_15, if_neg zc1, if_neg zc2]
        rw [ze] at hk
        refine qq_loc [0, 1, 2, 3, 4] rfl ?_
        refine qq_less (bc' := 3 * fu + bc) (bs' := 33 * fu + bs) (by omega) (by omega) ?_
        exact lqih ((f_J9_floorDiv_7cf53 (fr9 + to9) 2) + 1) to9 hp1 hS1 hr_1 hl_1 (ls_iu zw9 zL (by assumption)) (ls_up zw9 zL (by assumption) zh) bc bs (fun hq h1 h2 => hk hq h1 (fr_t fr1 h2))
def r_X7_less (how : Int32) (g : (Nat → Int32)) (S : sM) : Int32 := if how = 0 then if ((lf_X7_less_15 how g 11 (t_le how.toNatClampNeg) ((t_gr how.toNatClampNeg) + 1) S).1) ≤ 0 then (((lf_X7_less_15 how g 11 (t_le how.toNatClampNeg) ((t_gr how.toNatClampNeg) + 1) S).1) - (t_le how.toNatClampNeg)) + 0 else (((lf_X7_less_15 how g 11 (t_le how.toNatClampNeg) ((t_gr how.toNatClampNeg) + 1) S).1) - (t_le how.toNatClampNeg)) + 1 else (((lf_X7_less_15 how g 11 (t_le how.toNatClampNeg) ((t_gr how.toNatClampNeg) + 1) S).1) - (t_le how.toNatClampNeg)) + 0
set_option maxRecDepth 4000 in
theorem mt_X7_less (hp : qq_H) (A : qA) (S : sM) (hS : ms_M A S hp) (how : Int32) (r2 : Nat) (g : (Nat → Int32)) (hr_r2 : hp.2 r2 = .inl (0, 11, .inl g)) (hl_r2 : r2 < hp.1) (zw : vp_in how 4) : qq_Mt mX7_less [.ref 84, .int how, .ref r2] hp 33 363 (fun v hp' => v = some (.int (r_X7_less how g S)) ∧ ms_M A S hp' ∧ fr A hp hp') (fun _ _ => False) := by
  refine qq_met pn_X7 (Nat.le_of_ble_eq_true rfl) (Nat.le_of_ble_eq_true rfl) kc_X7_less ?_
  show qq_Go _ hp 33 363 0 [(0, .ref 84), (1, .int how), (2, .ref r2)] [] _ _
  refine qq_gets (C := "QuarterpowersModel") (nm := "LEAST") (d := "[I") (v := .ref 4) dX7_less_0 (by decide +kernel) kl_X7_148 ?_
  refine qq_iload_n dX7_less_3 rfl 1 rfl ?_
  refine qq_iald (n := 4) (f := t_le) dX7_less_4 (hS.1.2 4 (by decide) (by decide)) zw ?_
  show qq_Go _ hp (33) (363) 5 [(0, .ref 84), (1, .int how), (2, .ref r2)] [.int (t_le how.toNatClampNeg)] _ _
  refine qq_istore_n (loc' := [(0, .ref 84), (1, .int how), (2, .ref r2), (3, .int (t_le how.toNatClampNeg))]) dX7_less_5 rfl [1, 2, 3, 0] (Nat.le_of_ble_eq_true rfl) rfl ?_
  refine qq_gets (C := "QuarterpowersModel") (nm := "GREATEST") (d := "[I") (v := .ref 5) dX7_less_6 (by decide +kernel) kl_X7_151 ?_
  refine qq_iload_n dX7_less_9 rfl 1 rfl ?_
  refine qq_iald (n := 4) (f := t_gr) dX7_less_10 (hS.1.2 5 (by decide) (by decide)) zw ?_
  show qq_Go _ hp (33) (363) 11 [(0, .ref 84), (1, .int how), (2, .ref r2), (3, .int (t_le how.toNatClampNeg))] [.int (t_gr how.toNatClampNeg)] _ _
  refine qq_iconst (v := 1) dX7_less_11 (by decide) ?_
  refine qq_iadd dX7_less_12 ?_
  refine qq_istore (loc' := [(0, .ref 84), (1, .int how), (2, .ref r2), (3, .int (t_le how.toNatClampNeg)), (4, .int ((t_gr how.toNatClampNeg) + 1))]) dX7_less_13 [1, 2, 3, 4, 0] (Nat.le_of_ble_eq_true rfl) rfl ?_
  refine qq_less (bc' := 0 + 33) (bs' := 0 + 363) (by omega) (by omega) ?_
  refine qq_less (bc' := 3 * 11 + (0)) (bs' := 33 * 11 + (0)) (by omega) (by omega) ?_
  refine lq_X7_less_15 how A S r2 g zw 11 (t_le how.toNatClampNeg) ((t_gr how.toNatClampNeg) + 1) hp hS hr_r2 hl_r2 (ls_0 zw) (ls_f0 zw) (0) (0) (fun hp1 hS1 fr1 => ?_)
  have hr_1 := fr_w fr1 hS hl_r2 hr_r2 (by decide)
  have hl_1 := fr_l fr1 hl_r2
  show qq_Go _ hp1 (0) (0) 60 [(0, .ref 84), (1, .int how), (2, .ref r2), (3, .int ((lf_X7_less_15 how g 11 (t_le how.toNatClampNeg) ((t_gr how.toNatClampNeg) + 1) S).1))] [] _ _
  refine qq_iload_n dX7_less_60 rfl 3 rfl ?_
  refine qq_gets (C := "QuarterpowersModel") (nm := "LEAST") (d := "[I") (v := .ref 4) dX7_less_61 (by decide +kernel) kl_X7_148 ?_
  refine qq_iload_n dX7_less_64 rfl 1 rfl ?_
  refine qq_iald (n := 4) (f := t_le) dX7_less_65 (hS1.1.2 4 (by decide) (by decide)) zw ?_
  show qq_Go _ hp1 (0) (0) 66 [(0, .ref 84), (1, .int how), (2, .ref r2), (3, .int ((lf_X7_less_15 how g 11 (t_le how.toNatClampNeg) ((t_gr how.toNatClampNeg) + 1) S).1))] [.int (t_le how.toNatClampNeg), .int ((lf_X7_less_15 how g 11 (t_le how.toNatClampNeg) ((t_gr how.toNatClampNeg) + 1) S).1)] _ _
  refine qq_isub dX7_less_66 ?_
  refine qq_iload_n dX7_less_67 rfl 1 rfl ?_
  refine qq_if_ne (tgt := 79) dX7_less_68 (by decide) (fun zc1 => ?_) (fun zc1 => ?_)
  · refine qq_iconst (v := 0) dX7_less_79 (by decide) ?_
    refine qq_iadd dX7_less_80 ?_
    have ze : r_X7_less how g S = (((lf_X7_less_15 how g 11 (t_le how.toNatClampNeg) ((t_gr how.toNatClampNeg) + 1) S).1) - (t_le how.toNatClampNeg)) + 0 := by
      rw [r_X7_less, if_neg zc1]
    exact qq_iret dX7_less_81 rfl rfl ⟨by rw [ze], hS1, fr1⟩
  · refine qq_iload_n dX7_less_71 rfl 3 rfl ?_
    refine qq_if_le (tgt := 79) dX7_less_72 (by decide) (fun zc2 => ?_) (fun zc2 => ?_)
    · refine qq_iconst (v := 0) dX7_less_79 (by decide) ?_
      refine qq_iadd dX7_less_80 ?_
      have ze : r_X7_less how g S = (((lf_X7_less_15 how g 11 (t_le how.toNatClampNeg) ((t_gr how.toNatClampNeg) + 1) S).1) - (t_le how.toNatClampNeg)) + 0 := by
        rw [r_X7_less, if_pos zc1, if_pos zc2]
      exact qq_iret dX7_less_81 rfl rfl ⟨by rw [ze], hS1, fr1⟩
    · refine qq_iconst (v := 1) dX7_less_75 (by decide) ?_
      refine qq_goto (tgt := 80) dX7_less_76 (by decide) ?_
      refine qq_iadd dX7_less_80 ?_
      have ze : r_X7_less how g S = (((lf_X7_less_15 how g 11 (t_le how.toNatClampNeg) ((t_gr how.toNatClampNeg) + 1) S).1) - (t_le how.toNatClampNeg)) + 1 := by
        rw [r_X7_less, if_pos zc1, if_neg zc2]
      exact qq_iret dX7_less_81 rfl rfl ⟨by rw [ze], hS1, fr1⟩
def r_X7_before (how : Int32) (cell : Int32)  (S : sM) : Int32 × sM := if (f_X7_isIn how 0 3) = 0 then if ((r_X7_isRefused (f_X7_isNoCell cell) (1 : Int32) S).1) = 0 then (0, (r_X7_isRefused (f_X7_isNoCell cell) (1 : Int32) S).2) else (0, (r_X7_isRefused (f_X7_isNoCell cell) (1 : Int32) S).2) else if ((r_X7_isRefused (f_X7_isNoCell cell) (0 : Int32) S).1) = 0 then if ((((r_X7_isRefused (f_X7_isNoCell cell) (0 : Int32) S).2).1) cell.toNatClampNeg) = 1 then if ((((r_X7_isRefused (f_X7_isNoCell cell) (0 : Int32) S).2).2.2.1) cell.toNatClampNeg) = 0 then if how = 0 then (((t_gr how.toNatClampNeg) - (t_le how.toNatClampNeg)) + 2, (r_X7_isRefused (f_X7_isNoCell cell) (0 : Int32) S).2) else (((t_gr how.toNatClampNeg) - (t_le how.toNatClampNeg)) + 1, (r_X7_isRefused (f_X7_isNoCell cell) (0 : Int32) S).2) else (0, (r_X7_isRefused (f_X7_isNoCell cell) (0 : Int32) S).2) else if how = 0 then if (r_X7_isNought cell ((r_X7_isRefused (f_X7_isNoCell cell) (0 : Int32) S).2)) = 0 then ((r_X7_less how (r_X7_trueOf ((((r_X7_isRefused (f_X7_isNoCell cell) (0 : Int32) S).2).1) cell.toNatClampNeg) ((((r_X7_isRefused (f_X7_isNoCell cell) (0 : Int32) S).2).2.1) cell.toNatClampNeg) ((r_X7_isRefused (f_X7_isNoCell cell) (0 : Int32) S).2)) ((r_X7_isRefused (f_X7_isNoCell cell) (0 : Int32) S).2)) + 0, (r_X7_isRefused (f_X7_isNoCell cell) (0 : Int32) S).2) else if ((((r_X7_isRefused (f_X7_isNoCell cell) (0 : Int32) S).2).2.2.1) cell.toNatClampNeg) = 0 then ((r_X7_less how (r_X7_trueOf ((((r_X7_isRefused (f_X7_isNoCell cell) (0 : Int32) S).2).1) cell.toNatClampNeg) ((((r_X7_isRefused (f_X7_isNoCell cell) (0 : Int32) S).2).2.1) cell.toNatClampNeg) ((r_X7_isRefused (f_X7_isNoCell cell) (0 : Int32) S).2)) ((r_X7_isRefused (f_X7_isNoCell cell) (0 : Int32) S).2)) + 1, (r_X7_isRefused (f_X7_isNoCell cell) (0 : Int32) S).2) else ((r_X7_less how (r_X7_trueOf ((((r_X7_isRefused (f_X7_isNoCell cell) (0 : Int32) S).2).1) cell.toNatClampNeg) ((((r_X7_isRefused (f_X7_isNoCell cell) (0 : Int32) S).2).2.1) cell.toNatClampNeg) ((r_X7_isRefused (f_X7_isNoCell cell) (0 : Int32) S).2)) ((r_X7_isRefused (f_X7_isNoCell cell) (0 : Int32) S).2)) + 0, (r_X7_isRefused (f_X7_isNoCell cell) (0 : Int32) S).2) else ((r_X7_less how (r_X7_trueOf ((((r_X7_isRefused (f_X7_isNoCell cell) (0 : Int32) S).2).1) cell.toNatClampNeg) ((((r_X7_isRefused (f_X7_isNoCell cell) (0 : Int32) S).2).2.1) cell.toNatClampNeg) ((r_X7_isRefused (f_X7_isNoCell cell) (0 : Int32) S).2)) ((r_X7_isRefused (f_X7_isNoCell cell) (0 : Int32) S).2)) + 0, (r_X7_isRefused (f_X7_isNoCell cell) (0 : Int32) S).2) else (0, (r_X7_isRefused (f_X7_isNoCell cell) (0 : Int32) S).2)
set_option maxRecDepth 4000 in
theorem mt_X7_before (hp : qq_H) (A : qA) (S : sM) (hS : ms_M A S hp) (how : Int32) (cell : Int32)     (zI : IM S) : qq_Mt mX7_before [.ref 84, .int how, .int cell] hp 36 396 (fun v hp' => v = some (.int ((r_X7_before how cell S).1)) ∧ ms_M A ((r_X7_before how cell S).2) hp' ∧ fr A hp hp') (fun _ _ => False) := by
  refine qq_met pn_X7 (Nat.le_of_ble_eq_true rfl) (Nat.le_of_ble_eq_true rfl) kc_X7_before ?_
  show qq_Go _ hp 36 396 0 [(0, .ref 84), (1, .int how), (2, .int cell)] [] _ _
  refine qq_aload_n dX7_before_0 rfl 0 rfl ?_
  refine qq_iload_n dX7_before_1 rfl 2 rfl ?_
  refine qq_less (bc' := 36 + 0) (bs' := 396 + 0) (by omega) (by omega) ?_
  refine qq_callS (bc := 36) (bs := 396) (mc := 0) (ms := 0) (as := [.int cell]) (rest := [.ref 84]) dX7_before_2 (mt_X7_isNoCell hp cell) rfl kl_X7_123 ks_X7_isNoCell ki_X7 kc_X7_isNoCell kd_X7_isNoCell rfl (by decide) (by decide) (Nat.le_of_ble_eq_true rfl) (fun v hp' hv _ _ => ?_) (fun E hp' zx _ _ => zx.elim)
  obtain ⟨rfl, rfl⟩ := hv
  show qq_Go _ hp (36) (396) 5 [(0, .ref 84), (1, .int how), (2, .int cell)] [.int (f_X7_isNoCell cell), .ref 84] _ _
  refine qq_iload_n dX7_before_5 rfl 1 rfl ?_
  refine qq_iconst (v := 0) dX7_before_6 (by decide) ?_
  refine qq_iconst (v := 3) dX7_before_7 (by decide) ?_
  refine qq_less (bc' := 36 + 0) (bs' := 396 + 0) (by omega) (by omega) ?_
  refine qq_callS (bc := 36) (bs := 396) (mc := 0) (ms := 0) (as := [.int how, .int 0, .int 3]) (rest := [.int (f_X7_isNoCell cell), .ref 84]) dX7_before_8 (mt_X7_isIn hp how (0 : Int32) (3 : Int32)) rfl kl_X7_113 ks_X7_isIn ki_X7 kc_X7_isIn kd_X7_isIn rfl (by decide) (by decide) (Nat.le_of_ble_eq_true rfl) (fun v hp' hv _ _ => ?_) (fun E hp' zx _ _ => zx.elim)
  obtain ⟨rfl, rfl⟩ := hv
  show qq_Go _ hp (36) (396) 11 [(0, .ref 84), (1, .int how), (2, .int cell)] [.int (f_X7_isIn how 0 3), .int (f_X7_isNoCell cell), .ref 84] _ _
  refine qq_if_ne (tgt := 18) dX7_before_11 (by decide) (fun zc1 => ?_) (fun zc1 => ?_)
  · have zw1 := qx_in4 zc1
    refine qq_iconst (v := 0) dX7_before_18 (by decide) ?_
    refine qq_less (bc' := 36 + 0) (bs' := 396 + 0) (by omega) (by omega) ?_
    refine qq_callV (bc := 36) (bs := 396) (mc := 0) (ms := 0) (o := 84) (ci := 4) (N := 11) (T := TX7) (as := [.int (f_X7_isNoCell cell), .int 0]) (rest := []) dX7_before_19 hS.2.2.1 (by decide) rfl (mt_X7_isRefused hp A S hS (f_X7_isNoCell cell) (0 : Int32) ) rfl kl_X7_126 kn_X7_isRefused ke_X7_isRefused ki_X7 kc_X7_isRefused kd_X7_isRefused rfl (by decide) (by decide) (Nat.le_of_ble_eq_true rfl) (fun v hp1 hv _ _ => ?_) (fun E hp' zx _ _ => zx.elim)
    obtain ⟨rfl, hS1, fr1⟩ := hv
    show qq_Go _ hp1 (36) (396) 22 [(0, .ref 84), (1, .int how), (2, .int cell)] [.int ((r_X7_isRefused (f_X7_isNoCell cell) (0 : Int32) S).1)] _ _
    refine qq_if_eq (tgt := 27) dX7_before_22 (by decide) (fun zc2 => ?_) (fun zc2 => ?_)
    · have zv2 := qx_cell (qx_ref zc2)
      refine qq_aload_n dX7_before_27 rfl 0 rfl ?_
      refine mx_get hS1 dX7_before_28 4 (by decide) rfl kl_X7_28 ?_
      refine qq_iload_n dX7_before_31 rfl 2 rfl ?_
      refine qq_iald dX7_before_32 hS1.2.2.2.1 zv2 ?_
      refine qq_iconst (v := 1) dX7_before_33 (by decide) ?_
      refine qq_icmp_ne (tgt := 72) dX7_before_34 (by decide) (fun zc3 => ?_) (fun zc3 => ?_)
      · refine qq_aload_n dX7_before_72 rfl 0 rfl ?_
        refine qq_iload_n dX7_before_73 rfl 1 rfl ?_
        refine qq_aload_n dX7_before_74 rfl 0 rfl ?_
        refine qq_aload_n dX7_before_75 rfl 0 rfl ?_
        refine mx_get hS1 dX7_before_76 4 (by decide) rfl kl_X7_28 ?_
        refine qq_iload_n dX7_before_79 rfl 2 rfl ?_
        refine qq_iald dX7_before_80 hS1.2.2.2.1 zv2 ?_
        refine qq_aload_n dX7_before_81 rfl 0 rfl ?_
        refine mx_get hS1 dX7_before_82 5 (by decide) rfl kl_X7_31 ?_
        refine qq_iload_n dX7_before_85 rfl 2 rfl ?_
        refine qq_iald dX7_before_86 hS1.2.2.2.2.1 zv2 ?_
        refine qq_less (bc' := 33 + 3) (bs' := 363 + 33) (by omega) (by omega) ?_
        refine qq_callV (bc := 33) (bs := 363) (mc := 3) (ms := 33) (o := 84) (ci := 4) (N := 11) (T := TX7) (as := [.int ((((r_X7_isRefused (f_X7_isNoCell cell) (0 : Int32) S).2).1) cell.toNatClampNeg), .int ((((r_X7_isRefused (f_X7_isNoCell cell) (0 : Int32) S).2).2.1) cell.toNatClampNeg)]) (rest := [.int how, .ref 84]) dX7_before_87 hS1.2.2.1 (by decide) rfl (mt_X7_trueOf hp1 A ((r_X7_isRefused (f_X7_isNoCell cell) (0 : Int32) S).2) hS1 ((((r_X7_isRefused (f_X7_isNoCell cell) (0 : Int32) S).2).1) cell.toNatClampNeg) ((((r_X7_isRefused (f_X7_isNoCell cell) (0 : Int32) S).2).2.1) cell.toNatClampNeg) (im_t (im_ref zI) zv2)) rfl kl_X7_88 kn_X7_trueOf ke_X7_trueOf ki_X7 kc_X7_trueOf kd_X7_trueOf rfl (by decide) (by decide) (Nat.le_of_ble_eq_true rfl) (fun v hp2 hv _ _ => ?_) (fun E hp' zx _ _ => zx.elim)
        obtain ⟨rj2, rfl, hS2, fr2, hr_n2, hl_n2⟩ := hv
        show qq_Go _ hp2 (33) (363) 90 [(0, .ref 84), (1, .int how), (2, .int cell)] [.ref rj2, .int how, .ref 84] _ _
        refine qq_less (bc' := 0 + 33) (bs' := 0 + 363) (by omega) (by omega) ?_
        refine qq_callV (bc := 0) (bs := 0) (mc := 33) (ms := 363) (o := 84) (ci := 4) (N := 11) (T := TX7) (as := [.int how, .ref rj2]) (rest := []) dX7_before_90 hS2.2.2.1 (by decide) rfl (mt_X7_less hp2 A ((r_X7_isRefused (f_X7_isNoCell cell) (0 : Int32) S).2) hS2 how rj2 (r_X7_trueOf ((((r_X7_isRefused (f_X7_isNoCell cell) (0 : Int32) S).2).1) cell.toNatClampNeg) ((((r_X7_isRefused (f_X7_isNoCell cell) (0 : Int32) S).2).2.1) cell.toNatClampNeg) ((r_X7_isRefused (f_X7_isNoCell cell) (0 : Int32) S).2)) hr_n2 hl_n2 zw1) rfl kl_X7_249 kn_X7_less ke_X7_less ki_X7 kc_X7_less kd_X7_less rfl (by decide) (by decide) (Nat.le_of_ble_eq_true rfl) (fun v hp3 hv _ _ => ?_) (fun E hp' zx _ _ => zx.elim)
        obtain ⟨rfl, hS3, fr3⟩ := hv
        have hr_3 := fr_w fr3 hS2 hl_n2 hr_n2 (by decide)
        have hl_3 := fr_l fr3 hl_n2
        show qq_Go _ hp3 (0) (0) 93 [(0, .ref 84), (1, .int how), (2, .int cell)] [.int (r_X7_less how (r_X7_trueOf ((((r_X7_isRefused (f_X7_isNoCell cell) (0 : Int32) S).2).1) cell.toNatClampNeg) ((((r_X7_isRefused (f_X7_isNoCell cell) (0 : Int32) S).2).2.1) cell.toNatClampNeg) ((r_X7_isRefused (f_X7_isNoCell cell) (0 : Int32) S).2)) ((r_X7_isRefused (f_X7_isNoCell cell) (0 : Int32) S).2))] _ _
        refine qq_iload_n dX7_before_93 rfl 1 rfl ?_
        refine qq_if_ne (tgt := 118) dX7_before_94 (by decide) (fun zc4 => ?_) (fun zc4 => ?_)
        · refine qq_iconst (v := 0) dX7_before_118 (by decide) ?_
          refine qq_iadd dX7_before_119 ?_
          have ze : r_X7_before how cell S = ((r_X7_less how (r_X7_trueOf ((((r_X7_isRefused (f_X7_isNoCell cell) (0 : Int32) S).2).1) cell.toNatClampNeg) ((((r_X7_isRefused (f_X7_isNoCell cell) (0 : Int32) S).2).2.1) cell.toNatClampNeg) ((r_X7_isRefused (f_X7_isNoCell cell) (0 : Int32) S).2)) ((r_X7_isRefused (f_X7_isNoCell cell) (0 : Int32) S).2)) + 0, (r_X7_isRefused (f_X7_isNoCell cell) (0 : Int32) S).2) := by
            rw [r_X7_before, if_neg zc1, if_pos zc2, if_neg zc3, if_neg zc4]
          exact qq_iret dX7_before_120 rfl rfl ⟨by rw [ze], by rw [ze]; first | exact ms_pr hS3 | exact hS3, (fr_t (fr_t fr1 fr2) fr3)⟩
        · refine qq_aload_n dX7_before_97 rfl 0 rfl ?_
          refine qq_iload_n dX7_before_98 rfl 2 rfl ?_
          refine qq_less (bc' := 0 + 0) (bs' := 0 + 0) (by omega) (by omega) ?_
          refine qq_callV (bc := 0) (bs := 0) (mc := 0) (ms := 0) (o := 84) (ci := 4) (N := 11) (T := TX7) (as := [.int cell]) (rest := [.int (r_X7_less how (r_X7_trueOf ((((r_X7_isRefused (f_X7_isNoCell cell) (0 : Int32) S).2).1) cell.toNatClampNeg) ((((r_X7_isRefused (f_X7_isNoCell cell) (0 : Int32) S).2).2.1) cell.toNatClampNeg) ((r_X7_isRefused (f_X7_isNoCell cell) (0 : Int32) S).2)) ((r_X7_isRefused (f_X7_isNoCell cell) (0 : Int32) S).2))]) dX7_before_99 hS3.2.2.1 (by decide) rfl (mt_X7_isNought hp3 A ((r_X7_isRefused (f_X7_isNoCell cell) (0 : Int32) S).2) hS3 cell zv2) rfl kl_X7_109 kn_X7_isNought ke_X7_isNought ki_X7 kc_X7_isNought kd_X7_isNought rfl (by decide) (by decide) (Nat.le_of_ble_eq_true rfl) (fun v hp' hv _ _ => ?_) (fun E hp' zx _ _ => zx.elim)
          obtain ⟨rfl, rfl⟩ := hv
          show qq_Go _ hp3 (0) (0) 102 [(0, .ref 84), (1, .int how), (2, .int cell)] [.int (r_X7_isNought cell ((r_X7_isRefused (f_X7_isNoCell cell) (0 : Int32) S).2)), .int (r_X7_less how (r_X7_trueOf ((((r_X7_isRefused (f_X7_isNoCell cell) (0 : Int32) S).2).1) cell.toNatClampNeg) ((((r_X7_isRefused (f_X7_isNoCell cell) (0 : Int32) S).2).2.1) cell.toNatClampNeg) ((r_X7_isRefused (f_X7_isNoCell cell) (0 : Int32) S).2)) ((r_X7_isRefused (f_X7_isNoCell cell) (0 : Int32) S).2))] _ _
          refine qq_if_eq (tgt := 118) dX7_before_102 (by decide) (fun zc5 => ?_) (fun zc5 => ?_)
          · refine qq_iconst (v := 0) dX7_before_118 (by decide) ?_
            refine qq_iadd dX7_before_119 ?_
            have ze : r_X7_before how cell S = ((r_X7_less how (r_X7_trueOf ((((r_X7_isRefused (f_X7_isNoCell cell) (0 : Int32) S).2).1) cell.toNatClampNeg) ((((r_X7_isRefused (f_X7_isNoCell cell) (0 : Int32) S).2).2.1) cell.toNatClampNeg) ((r_X7_isRefused (f_X7_isNoCell cell) (0 : Int32) S).2)) ((r_X7_isRefused (f_X7_isNoCell cell) (0 : Int32) S).2)) + 0, (r_X7_isRefused (f_X7_isNoCell cell) (0 : Int32) S).2) := by
              rw [r_X7_before, if_neg zc1, if_pos zc2, if_neg zc3, if_pos zc4, if_pos zc5]
            exact qq_iret dX7_before_120 rfl rfl ⟨by rw [ze], by rw [ze]; first | exact ms_pr hS3 | exact hS3, (fr_t (fr_t fr1 fr2) fr3)⟩
          · refine qq_aload_n dX7_before_105 rfl 0 rfl ?_
            refine mx_get hS3 dX7_before_106 6 (by decide) rfl kl_X7_34 ?_
            refine qq_iload_n dX7_before_109 rfl 2 rfl ?_
            refine qq_zald dX7_before_110 hS3.2.2.2.2.2.1 zv2 ?_
            refine qq_if_ne (tgt := 118) dX7_before_111 (by decide) (fun zc6 => ?_) (fun zc6 => ?_)
            · refine qq_iconst (v := 0) dX7_before_118 (by decide) ?_
              refine qq_iadd dX7_before_119 ?_
              have ze : r_X7_before how cell S = ((r_X7_less how (r_X7_trueOf ((((r_X7_isRefused (f_X7_isNoCell cell) (0 : Int32) S).2).1) cell.toNatClampNeg) ((((r_X7_isRefused (f_X7_isNoCell cell) (0 : Int32) S).2).2.1) cell.toNatClampNeg) ((r_X7_isRefused (f_X7_isNoCell cell) (0 : Int32) S).2)) ((r_X7_isRefused (f_X7_isNoCell cell) (0 : Int32) S).2)) + 0, (r_X7_isRefused (f_X7_isNoCell cell) (0 : Int32) S).2) := by
                rw [r_X7_before, if_neg zc1, if_pos zc2, if_neg zc3, if_pos zc4, if_neg zc5, if_neg zc6]
              exact qq_iret dX7_before_120 rfl rfl ⟨by rw [ze], by rw [ze]; first | exact ms_pr hS3 | exact hS3, (fr_t (fr_t fr1 fr2) fr3)⟩
            · refine qq_iconst (v := 1) dX7_before_114 (by decide) ?_
              refine qq_goto (tgt := 119) dX7_before_115 (by decide) ?_
              refine qq_iadd dX7_before_119 ?_
              have ze : r_X7_before how cell S = ((r_X7_less how (r_X7_trueOf ((((r_X7_isRefused (f_X7_isNoCell cell) (0 : Int32) S).2).1) cell.toNatClampNeg) ((((r_X7_isRefused (f_X7_isNoCell cell) (0 : Int32) S).2).2.1) cell.toNatClampNeg) ((r_X7_isRefused (f_X7_isNoCell cell) (0 : Int32) S).2)) ((r_X7_isRefused (f_X7_isNoCell cell) (0 : Int32) S).2)) + 1, (r_X7_isRefused (f_X7_isNoCell cell) (0 : Int32) S).2) := by
                rw [r_X7_before, if_neg zc1, if_pos zc2, if_neg zc3, if_pos zc4, if_neg zc5, if_pos zc6]
              exact qq_iret dX7_before_120 rfl rfl ⟨by rw [ze], by rw [ze]; first | exact ms_pr hS3 | exact hS3, (fr_t (fr_t fr1 fr2) fr3)⟩
      · refine qq_aload_n dX7_before_37 rfl 0 rfl ?_
        refine mx_get hS1 dX7_before_38 6 (by decide) rfl kl_X7_34 ?_
        refine qq_iload_n dX7_before_41 rfl 2 rfl ?_
        refine qq_zald dX7_before_42 hS1.2.2.2.2.2.1 zv2 ?_
        refine qq_if_eq (tgt := 50) dX7_before_43 (by decide) (fun zc7 => ?_) (fun zc7 => ?_)
        · refine qq_gets (C := "QuarterpowersModel") (nm := "GREATEST") (d := "[I") (v := .ref 5) dX7_before_50 (by decide +kernel) kl_X7_151 ?_
          refine qq_iload_n dX7_before_53 rfl 1 rfl ?_
          refine qq_iald (n := 4) (f := t_gr) dX7_before_54 (hS1.1.2 5 (by decide) (by decide)) zw1 ?_
          show qq_Go _ hp1 (36) (396) 55 [(0, .ref 84), (1, .int how), (2, .int cell)] [.int (t_gr how.toNatClampNeg)] _ _
          refine qq_gets (C := "QuarterpowersModel") (nm := "LEAST") (d := "[I") (v := .ref 4) dX7_before_55 (by decide +kernel) kl_X7_148 ?_
          refine qq_iload_n dX7_before_58 rfl 1 rfl ?_
          refine qq_iald (n := 4) (f := t_le) dX7_before_59 (hS1.1.2 4 (by decide) (by decide)) zw1 ?_
          show qq_Go _ hp1 (36) (396) 60 [(0, .ref 84), (1, .int how), (2, .int cell)] [.int (t_le how.toNatClampNeg), .int (t_gr how.toNatClampNeg)] _ _
          refine qq_isub dX7_before_60 ?_
          refine qq_iload_n dX7_before_61 rfl 1 rfl ?_
          refine qq_if_ne (tgt := 69) dX7_before_62 (by decide) (fun zc8 => ?_) (fun zc8 => ?_)
          · refine qq_iconst (v := 1) dX7_before_69 (by decide) ?_
            refine qq_iadd dX7_before_70 ?_
            have ze : r_X7_before how cell S = (((t_gr how.toNatClampNeg) - (t_le how.toNatClampNeg)) + 1, (r_X7_isRefused (f_X7_isNoCell cell) (0 : Int32) S).2) := by
              rw [r_X7_before, if_neg zc1, if_pos zc2, if_pos zc3, if_pos zc7, if_neg zc8]
            exact qq_iret dX7_before_71 rfl rfl ⟨by rw [ze], by rw [ze]; first | exact ms_pr hS1 | exact hS1, fr1⟩
          · refine qq_iconst (v := 2) dX7_before_65 (by decide) ?_
            refine qq_goto (tgt := 70) dX7_before_66 (by decide) ?_
            refine qq_iadd dX7_before_70 ?_
            have ze : r_X7_before how cell S = (((t_gr how.toNatClampNeg) - (t_le how.toNatClampNeg)) + 2, (r_X7_isRefused (f_X7_isNoCell cell) (0 : Int32) S).2) := by
              rw [r_X7_before, if_neg zc1, if_pos zc2, if_pos zc3, if_pos zc7, if_pos zc8]
            exact qq_iret dX7_before_71 rfl rfl ⟨by rw [ze], by rw [ze]; first | exact ms_pr hS1 | exact hS1, fr1⟩
        · refine qq_iconst (v := 0) dX7_before_46 (by decide) ?_
          refine qq_goto (tgt := 71) dX7_before_47 (by decide) ?_
          have ze : r_X7_before how cell S = (0, (r_X7_isRefused (f_X7_isNoCell cell) (0 : Int32) S).2) := by
            rw [r_X7_before, if_neg zc1, if_pos zc2, if_pos zc3, if_neg zc7]
          exact qq_iret dX7_before_71 rfl rfl ⟨by rw [ze], by rw [ze]; first | exact ms_pr hS1 | exact hS1, fr1⟩
    · refine qq_iconst (v := 0) dX7_before_25 (by decide) ?_
      have ze : r_X7_before how cell S = (0, (r_X7_isRefused (f_X7_isNoCell cell) (0 : Int32) S).2) := by
        rw [r_X7_before, if_neg zc1, if_neg zc2]
      exact qq_iret dX7_before_26 rfl rfl ⟨by rw [ze], by rw [ze]; first | exact ms_pr hS1 | exact hS1, fr1⟩
  · refine qq_iconst (v := 1) dX7_before_14 (by decide) ?_
    refine qq_goto (tgt := 19) dX7_before_15 (by decide) ?_
    refine qq_less (bc' := 36 + 0) (bs' := 396 + 0) (by omega) (by omega) ?_
    refine qq_callV (bc := 36) (bs := 396) (mc := 0) (ms := 0) (o := 84) (ci := 4) (N := 11) (T := TX7) (as := [.int (f_X7_isNoCell cell), .int 1]) (rest := []) dX7_before_19 hS.2.2.1 (by decide) rfl (mt_X7_isRefused hp A S hS (f_X7_isNoCell cell) (1 : Int32) ) rfl kl_X7_126 kn_X7_isRefused ke_X7_isRefused ki_X7 kc_X7_isRefused kd_X7_isRefused rfl (by decide) (by decide) (Nat.le_of_ble_eq_true rfl) (fun v hp4 hv _ _ => ?_) (fun E hp' zx _ _ => zx.elim)
    obtain ⟨rfl, hS4, fr4⟩ := hv
    show qq_Go _ hp4 (36) (396) 22 [(0, .ref 84), (1, .int how), (2, .int cell)] [.int ((r_X7_isRefused (f_X7_isNoCell cell) (1 : Int32) S).1)] _ _
    refine qq_if_eq (tgt := 27) dX7_before_22 (by decide) (fun zc9 => ?_) (fun zc9 => ?_)
    · exact absurd zc9 qx_2
    · refine qq_iconst (v := 0) dX7_before_25 (by decide) ?_
      have ze : r_X7_before how cell S = (0, (r_X7_isRefused (f_X7_isNoCell cell) (1 : Int32) S).2) := by
        rw [r_X7_before, if_pos zc1, if_neg zc9]
      exact qq_iret dX7_before_26 rfl rfl ⟨by rw [ze], by rw [ze]; first | exact ms_pr hS4 | exact hS4, fr4⟩
def r_X7_answer (how : Int32) (q9 : Int32) (k9 : Int32)  (S : sM) : Int32 × sM := if (f_X7_isIn how 1 3) = 0 then if ((r_X7_isArgument (0 : Int32) S).1) = 0 then (0, (r_X7_isArgument (0 : Int32) S).2) else (0, (r_X7_isArgument (0 : Int32) S).2) else if (f_X7_isIn how 1 3) = 0 then (0, S) else if (r_X7_isOf how q9 S) = 0 then if ((r_X7_isArgument (0 : Int32) S).1) = 0 then (0, (r_X7_isArgument (0 : Int32) S).2) else (0, (r_X7_isArgument (0 : Int32) S).2) else if (f_X7_isIn k9 (-62) 90) = 0 then if ((r_X7_isArgument (0 : Int32) S).1) = 0 then (0, (r_X7_isArgument (0 : Int32) S).2) else (0, (r_X7_isArgument (0 : Int32) S).2) else if ((r_X7_isArgument (1 : Int32) S).1) = 0 then (0, (r_X7_isArgument (1 : Int32) S).2) else if (r_X7_isInt (256 - k9) (r_X7_trueIn how q9 ((r_X7_isArgument (1 : Int32) S).2))) = 0 then (0, (((r_X7_isArgument (1 : Int32) S).2).1, ((r_X7_isArgument (1 : Int32) S).2).2.1, ((r_X7_isArgument (1 : Int32) S).2).2.2.1, ((r_X7_isArgument (1 : Int32) S).2).2.2.2.1, ((r_X7_isArgument (1 : Int32) S).2).2.2.2.2.1, ((r_X7_isArgument (1 : Int32) S).2).2.2.2.2.2.1, 2)) else if (((r_X7_isArgument (1 : Int32) S).2).2.2.2.2.2.2) = 0 then (r_X7_digitsFrom (256 - k9) (r_X7_trueIn how q9 ((r_X7_isArgument (1 : Int32) S).2)), (r_X7_isArgument (1 : Int32) S).2) else (0, (r_X7_isArgument (1 : Int32) S).2)
set_option maxRecDepth 4000 in
theorem mt_X7_answer (hp : qq_H) (A : qA) (S : sM) (hS : ms_M A S hp) (how : Int32) (q9 : Int32) (k9 : Int32)      : qq_Mt mX7_answer [.ref 84, .int how, .int q9, .int k9] hp 3 33 (fun v hp' => v = some (.int ((r_X7_answer how q9 k9 S).1)) ∧ ms_M A ((r_X7_answer how q9 k9 S).2) hp' ∧ fr A hp hp') (fun _ _ => False) := by
  refine qq_met pn_X7 (Nat.le_of_ble_eq_true rfl) (Nat.le_of_ble_eq_true rfl) kc_X7_answer ?_
  show qq_Go _ hp 3 33 0 [(0, .ref 84), (1, .int how), (2, .int q9), (3, .int k9)] [] _ _
  refine qq_aload_n dX7_answer_0 rfl 0 rfl ?_
  refine qq_iload_n dX7_answer_1 rfl 1 rfl ?_
  refine qq_iconst (v := 1) dX7_answer_2 (by decide) ?_
  refine qq_iconst (v := 3) dX7_answer_3 (by decide) ?_
  refine qq_less (bc' := 3 + 0) (bs' := 33 + 0) (by omega) (by omega) ?_
  refine qq_callS (bc := 3) (bs := 33) (mc := 0) (ms := 0) (as := [.int how, .int 1, .int 3]) (rest := [.ref 84]) dX7_answer_4 (mt_X7_isIn hp how (1 : Int32) (3 : Int32)) rfl kl_X7_113 ks_X7_isIn ki_X7 kc_X7_isIn kd_X7_isIn rfl (by decide) (by decide) (Nat.le_of_ble_eq_true rfl) (fun v hp' hv _ _ => ?_) (fun E hp' zx _ _ => zx.elim)
  obtain ⟨rfl, rfl⟩ := hv
  show qq_Go _ hp (3) (33) 7 [(0, .ref 84), (1, .int how), (2, .int q9), (3, .int k9)] [.int (f_X7_isIn how 1 3), .ref 84] _ _
  refine qq_if_eq (tgt := 46) dX7_answer_7 (by decide) (fun zc1 => ?_) (fun zc1 => ?_)
  · refine qq_iconst (v := 0) dX7_answer_46 (by decide) ?_
    refine qq_less (bc' := 3 + 0) (bs' := 33 + 0) (by omega) (by omega) ?_
    refine qq_callV (bc := 3) (bs := 33) (mc := 0) (ms := 0) (o := 84) (ci := 4) (N := 11) (T := TX7) (as := [.int 0]) (rest := []) dX7_answer_47 hS.2.2.1 (by decide) rfl (mt_X7_isArgument hp A S hS (0 : Int32) (Or.inl rfl)) rfl kl_X7_262 kn_X7_isArgument ke_X7_isArgument ki_X7 kc_X7_isArgument kd_X7_isArgument rfl (by decide) (by decide) (Nat.le_of_ble_eq_true rfl) (fun v hp1 hv _ _ => ?_) (fun E hp' zx _ _ => zx.elim)
    obtain ⟨rfl, hS1, fr1⟩ := hv
    show qq_Go _ hp1 (3) (33) 50 [(0, .ref 84), (1, .int how), (2, .int q9), (3, .int k9)] [.int ((r_X7_isArgument (0 : Int32) S).1)] _ _
    refine qq_if_ne (tgt := 55) dX7_answer_50 (by decide) (fun zc2 => ?_) (fun zc2 => ?_)
    · exact absurd qx_a0 zc2
    · refine qq_iconst (v := 0) dX7_answer_53 (by decide) ?_
      have ze : r_X7_answer how q9 k9 S = (0, (r_X7_isArgument (0 : Int32) S).2) := by
        rw [r_X7_answer, if_pos zc1, if_pos zc2]
      exact qq_iret dX7_answer_54 rfl rfl ⟨by rw [ze], by rw [ze]; first | exact ms_pr hS1 | exact hS1, fr1⟩
  · have zw1 := qx_in4b zc1
    refine qq_iload_n dX7_answer_10 rfl 1 rfl ?_
    refine qq_iconst (v := 1) dX7_answer_11 (by decide) ?_
    refine qq_iconst (v := 3) dX7_answer_12 (by decide) ?_
    refine qq_less (bc' := 3 + 0) (bs' := 33 + 0) (by omega) (by omega) ?_
    refine qq_callS (bc := 3) (bs := 33) (mc := 0) (ms := 0) (as := [.int how, .int 1, .int 3]) (rest := [.ref 84]) dX7_answer_13 (mt_X7_isIn hp how (1 : Int32) (3 : Int32)) rfl kl_X7_113 ks_X7_isIn ki_X7 kc_X7_isIn kd_X7_isIn rfl (by decide) (by decide) (Nat.le_of_ble_eq_true rfl) (fun v hp' hv _ _ => ?_) (fun E hp' zx _ _ => zx.elim)
    obtain ⟨rfl, rfl⟩ := hv
    show qq_Go _ hp (3) (33) 16 [(0, .ref 84), (1, .int how), (2, .int q9), (3, .int k9)] [.int (f_X7_isIn how 1 3), .ref 84] _ _
    refine qq_if_eq (tgt := 23) dX7_answer_16 (by decide) (fun zc3 => ?_) (fun zc3 => ?_)
    · exact absurd zc3 zc1
    · have zw2 := qx_in4b zc3
      refine qq_iload_n dX7_answer_19 rfl 1 rfl ?_
      refine qq_goto (tgt := 24) dX7_answer_20 (by decide) ?_
      refine qq_iload_n dX7_answer_24 rfl 2 rfl ?_
      refine qq_less (bc' := 3 + 0) (bs' := 33 + 0) (by omega) (by omega) ?_
      refine qq_callS (bc := 3) (bs := 33) (mc := 0) (ms := 0) (as := [.int how, .int q9]) (rest := [.ref 84]) dX7_answer_25 (mt_X7_isOf hp A S hS how q9 zw2) rfl kl_X7_259 ks_X7_isOf ki_X7 kc_X7_isOf kd_X7_isOf rfl (by decide) (by decide) (Nat.le_of_ble_eq_true rfl) (fun v hp' hv _ _ => ?_) (fun E hp' zx _ _ => zx.elim)
      obtain ⟨rfl, rfl⟩ := hv
      show qq_Go _ hp (3) (33) 28 [(0, .ref 84), (1, .int how), (2, .int q9), (3, .int k9)] [.int (r_X7_isOf how q9 S), .ref 84] _ _
      refine qq_if_eq (tgt := 46) dX7_answer_28 (by decide) (fun zc4 => ?_) (fun zc4 => ?_)
      · refine qq_iconst (v := 0) dX7_answer_46 (by decide) ?_
        refine qq_less (bc' := 3 + 0) (bs' := 33 + 0) (by omega) (by omega) ?_
        refine qq_callV (bc := 3) (bs := 33) (mc := 0) (ms := 0) (o := 84) (ci := 4) (N := 11) (T := TX7) (as := [.int 0]) (rest := []) dX7_answer_47 hS.2.2.1 (by decide) rfl (mt_X7_isArgument hp A S hS (0 : Int32) (Or.inl rfl)) rfl kl_X7_262 kn_X7_isArgument ke_X7_isArgument ki_X7 kc_X7_isArgument kd_X7_isArgument rfl (by decide) (by decide) (Nat.le_of_ble_eq_true rfl) (fun v hp2 hv _ _ => ?_) (fun E hp' zx _ _ => zx.elim)
        obtain ⟨rfl, hS2, fr2⟩ := hv
        show qq_Go _ hp2 (3) (33) 50 [(0, .ref 84), (1, .int how), (2, .int q9), (3, .int k9)] [.int ((r_X7_isArgument (0 : Int32) S).1)] _ _
        refine qq_if_ne (tgt := 55) dX7_answer_50 (by decide) (fun zc5 => ?_) (fun zc5 => ?_)
        · exact absurd qx_a0 zc5
        · refine qq_iconst (v := 0) dX7_answer_53 (by decide) ?_
          have ze : r_X7_answer how q9 k9 S = (0, (r_X7_isArgument (0 : Int32) S).2) := by
            rw [r_X7_answer, if_neg zc1, if_neg zc3, if_pos zc4, if_pos zc5]
          exact qq_iret dX7_answer_54 rfl rfl ⟨by rw [ze], by rw [ze]; first | exact ms_pr hS2 | exact hS2, fr2⟩
      · refine qq_iload_n dX7_answer_31 rfl 3 rfl ?_
        refine qq_bipush (v := (-62)) dX7_answer_32 (by decide) ?_
        refine qq_bipush (v := 90) dX7_answer_34 (by decide) ?_
        refine qq_less (bc' := 3 + 0) (bs' := 33 + 0) (by omega) (by omega) ?_
        refine qq_callS (bc := 3) (bs := 33) (mc := 0) (ms := 0) (as := [.int k9, .int (-62), .int 90]) (rest := [.ref 84]) dX7_answer_36 (mt_X7_isIn hp k9 (-62 : Int32) (90 : Int32)) rfl kl_X7_113 ks_X7_isIn ki_X7 kc_X7_isIn kd_X7_isIn rfl (by decide) (by decide) (Nat.le_of_ble_eq_true rfl) (fun v hp' hv _ _ => ?_) (fun E hp' zx _ _ => zx.elim)
        obtain ⟨rfl, rfl⟩ := hv
        show qq_Go _ hp (3) (33) 39 [(0, .ref 84), (1, .int how), (2, .int q9), (3, .int k9)] [.int (f_X7_isIn k9 (-62) 90), .ref 84] _ _
        refine qq_if_eq (tgt := 46) dX7_answer_39 (by decide) (fun zc6 => ?_) (fun zc6 => ?_)
        · refine qq_iconst (v := 0) dX7_answer_46 (by decide) ?_
          refine qq_less (bc' := 3 + 0) (bs' := 33 + 0) (by omega) (by omega) ?_
          refine qq_callV (bc := 3) (bs := 33) (mc := 0) (ms := 0) (o := 84) (ci := 4) (N := 11) (T := TX7) (as := [.int 0]) (rest := []) dX7_answer_47 hS.2.2.1 (by decide) rfl (mt_X7_isArgument hp A S hS (0 : Int32) (Or.inl rfl)) rfl kl_X7_262 kn_X7_isArgument ke_X7_isArgument ki_X7 kc_X7_isArgument kd_X7_isArgument rfl (by decide) (by decide) (Nat.le_of_ble_eq_true rfl) (fun v hp3 hv _ _ => ?_) (fun E hp' zx _ _ => zx.elim)
          obtain ⟨rfl, hS3, fr3⟩ := hv
          show qq_Go _ hp3 (3) (33) 50 [(0, .ref 84), (1, .int how), (2, .int q9), (3, .int k9)] [.int ((r_X7_isArgument (0 : Int32) S).1)] _ _
          refine qq_if_ne (tgt := 55) dX7_answer_50 (by decide) (fun zc7 => ?_) (fun zc7 => ?_)
          · exact absurd qx_a0 zc7
          · refine qq_iconst (v := 0) dX7_answer_53 (by decide) ?_
            have ze : r_X7_answer how q9 k9 S = (0, (r_X7_isArgument (0 : Int32) S).2) := by
              rw [r_X7_answer, if_neg zc1, if_neg zc3, if_neg zc4, if_pos zc6, if_pos zc7]
            exact qq_iret dX7_answer_54 rfl rfl ⟨by rw [ze], by rw [ze]; first | exact ms_pr hS3 | exact hS3, fr3⟩
        · have zp3 := qx_pl zc6
          refine qq_iconst (v := 1) dX7_answer_42 (by decide) ?_
          refine qq_goto (tgt := 47) dX7_answer_43 (by decide) ?_
          refine qq_less (bc' := 3 + 0) (bs' := 33 + 0) (by omega) (by omega) ?_
          refine qq_callV (bc := 3) (bs := 33) (mc := 0) (ms := 0) (o := 84) (ci := 4) (N := 11) (T := TX7) (as := [.int 1]) (rest := []) dX7_answer_47 hS.2.2.1 (by decide) rfl (mt_X7_isArgument hp A S hS (1 : Int32) (Or.inr rfl)) rfl kl_X7_262 kn_X7_isArgument ke_X7_isArgument ki_X7 kc_X7_isArgument kd_X7_isArgument rfl (by decide) (by decide) (Nat.le_of_ble_eq_true rfl) (fun v hp4 hv _ _ => ?_) (fun E hp' zx _ _ => zx.elim)
          obtain ⟨rfl, hS4, fr4⟩ := hv
          show qq_Go _ hp4 (3) (33) 50 [(0, .ref 84), (1, .int how), (2, .int q9), (3, .int k9)] [.int ((r_X7_isArgument (1 : Int32) S).1)] _ _
          refine qq_if_ne (tgt := 55) dX7_answer_50 (by decide) (fun zc8 => ?_) (fun zc8 => ?_)
          · refine qq_aload_n dX7_answer_55 rfl 0 rfl ?_
            refine qq_iload_n dX7_answer_56 rfl 1 rfl ?_
            refine qq_iload_n dX7_answer_57 rfl 2 rfl ?_
            refine qq_less (bc' := 0 + 3) (bs' := 0 + 33) (by omega) (by omega) ?_
            refine qq_callV (bc := 0) (bs := 0) (mc := 3) (ms := 33) (o := 84) (ci := 4) (N := 11) (T := TX7) (as := [.int how, .int q9]) (rest := []) dX7_answer_58 hS4.2.2.1 (by decide) rfl (mt_X7_trueIn hp4 A ((r_X7_isArgument (1 : Int32) S).2) hS4 how q9 (tq_of zw2 zc4)) rfl kl_X7_256 kn_X7_trueIn ke_X7_trueIn ki_X7 kc_X7_trueIn kd_X7_trueIn rfl (by decide) (by decide) (Nat.le_of_ble_eq_true rfl) (fun v hp5 hv _ _ => ?_) (fun E hp' zx _ _ => zx.elim)
            obtain ⟨rj5, rfl, hS5, fr5, hr_n5, hl_n5⟩ := hv
            show qq_Go _ hp5 (0) (0) 61 [(0, .ref 84), (1, .int how), (2, .int q9), (3, .int k9)] [.ref rj5] _ _
            refine qq_astore (loc' := [(0, .ref 84), (1, .int how), (2, .int q9), (3, .int k9), (4, .ref rj5)]) dX7_answer_61 [1, 2, 3, 4, 0] (Nat.le_of_ble_eq_true rfl) rfl ?_
            refine qq_aload dX7_answer_63 4 rfl ?_
            refine qq_sipush (v := 256) dX7_answer_65 (by decide) ?_
            refine qq_iload_n dX7_answer_68 rfl 3 rfl ?_
            refine qq_isub dX7_answer_69 ?_
            refine qq_less (bc' := 0 + 0) (bs' := 0 + 0) (by omega) (by omega) ?_
            refine qq_callS (bc := 0) (bs := 0) (mc := 0) (ms := 0) (as := [.ref rj5, .int (256 - k9)]) (rest := []) dX7_answer_70 (mt_X7_isInt hp5 (256 - k9) rj5 (r_X7_trueIn how q9 ((r_X7_isArgument (1 : Int32) S).2)) hr_n5 zp3.1 zp3.2) rfl kl_X7_177 ks_X7_isInt ki_X7 kc_X7_isInt kd_X7_isInt rfl (by decide) (by decide) (Nat.le_of_ble_eq_true rfl) (fun v hp' hv _ _ => ?_) (fun E hp' zx _ _ => zx.elim)
            obtain ⟨rfl, rfl⟩ := hv
            show qq_Go _ hp5 (0) (0) 73 [(0, .ref 84), (1, .int how), (2, .int q9), (3, .int k9), (4, .ref rj5)] [.int (r_X7_isInt (256 - k9) (r_X7_trueIn how q9 ((r_X7_isArgument (1 : Int32) S).2)))] _ _
            refine qq_if_ne (tgt := 81) dX7_answer_73 (by decide) (fun zc9 => ?_) (fun zc9 => ?_)
            · refine qq_aload_n dX7_answer_81 rfl 0 rfl ?_
              refine mx_get hS5 dX7_answer_82 10 (by decide) rfl kl_X7_50 ?_
              refine qq_if_ne (tgt := 101) dX7_answer_85 (by decide) (fun zc10 => ?_) (fun zc10 => ?_)
              · refine qq_iconst (v := 0) dX7_answer_101 (by decide) ?_
                have ze : r_X7_answer how q9 k9 S = (0, (r_X7_isArgument (1 : Int32) S).2) := by
                  rw [r_X7_answer, if_neg zc1, if_neg zc3, if_neg zc4, if_neg zc6, if_neg zc8, if_neg zc9, if_neg zc10]
                exact qq_iret dX7_answer_102 rfl rfl ⟨by rw [ze], by rw [ze]; first | exact ms_pr hS5 | exact hS5, (fr_t fr4 fr5)⟩
              · refine qq_aload dX7_answer_88 4 rfl ?_
                refine qq_sipush (v := 256) dX7_answer_90 (by decide) ?_
                refine qq_iload_n dX7_answer_93 rfl 3 rfl ?_
                refine qq_isub dX7_answer_94 ?_
                refine qq_less (bc' := 0 + 0) (bs' := 0 + 0) (by omega) (by omega) ?_
                refine qq_callS (bc := 0) (bs := 0) (mc := 0) (ms := 0) (as := [.ref rj5, .int (256 - k9)]) (rest := []) dX7_answer_95 (mt_X7_digitsFrom hp5 (256 - k9) rj5 (r_X7_trueIn how q9 ((r_X7_isArgument (1 : Int32) S).2)) hr_n5 zp3.1 zp3.2) rfl kl_X7_181 ks_X7_digitsFrom ki_X7 kc_X7_digitsFrom kd_X7_digitsFrom rfl (by decide) (by decide) (Nat.le_of_ble_eq_true rfl) (fun v hp' hv _ _ => ?_) (fun E hp' zx _ _ => zx.elim)
                obtain ⟨rfl, rfl⟩ := hv
                show qq_Go _ hp5 (0) (0) 98 [(0, .ref 84), (1, .int how), (2, .int q9), (3, .int k9), (4, .ref rj5)] [.int (r_X7_digitsFrom (256 - k9) (r_X7_trueIn how q9 ((r_X7_isArgument (1 : Int32) S).2)))] _ _
                refine qq_goto (tgt := 102) dX7_answer_98 (by decide) ?_
                have ze : r_X7_answer how q9 k9 S = (r_X7_digitsFrom (256 - k9) (r_X7_trueIn how q9 ((r_X7_isArgument (1 : Int32) S).2)), (r_X7_isArgument (1 : Int32) S).2) := by
                  rw [r_X7_answer, if_neg zc1, if_neg zc3, if_neg zc4, if_neg zc6, if_neg zc8, if_neg zc9, if_pos zc10]
                exact qq_iret dX7_answer_102 rfl rfl ⟨by rw [ze], by rw [ze]; first | exact ms_pr hS5 | exact hS5, (fr_t fr4 fr5)⟩
            · refine qq_aload_n dX7_answer_76 rfl 0 rfl ?_
              refine qq_iconst (v := 2) dX7_answer_77 (by decide) ?_
              refine mx_put10 hS5 dX7_answer_78 kl_X7_50 (fun hp6 hS6 fq6 => ?_)
              have fr6 := fq6 A
              replace hS6 : ms_M A (((r_X7_isArgument (1 : Int32) S).2).1, ((r_X7_isArgument (1 : Int32) S).2).2.1, ((r_X7_isArgument (1 : Int32) S).2).2.2.1, ((r_X7_isArgument (1 : Int32) S).2).2.2.2.1, ((r_X7_isArgument (1 : Int32) S).2).2.2.2.2.1, ((r_X7_isArgument (1 : Int32) S).2).2.2.2.2.2.1, 2) hp6 := hS6
              have hr_4 := fr_w fr6 hS5 hl_n5 hr_n5 (by decide)
              have hl_4 := fr_l fr6 hl_n5
              refine qq_aload_n dX7_answer_81 rfl 0 rfl ?_
              refine mx_get hS6 dX7_answer_82 10 (by decide) rfl kl_X7_50 ?_
              show qq_Go _ hp6 (0) (0) 85 [(0, .ref 84), (1, .int how), (2, .int q9), (3, .int k9), (4, .ref rj5)] [.int 2] _ _
              refine qq_if_ne (tgt := 101) dX7_answer_85 (by decide) (fun _ => ?_) (fun z => absurd z (by decide))
              refine qq_iconst (v := 0) dX7_answer_101 (by decide) ?_
              have ze : r_X7_answer how q9 k9 S = (0, (((r_X7_isArgument (1 : Int32) S).2).1, ((r_X7_isArgument (1 : Int32) S).2).2.1, ((r_X7_isArgument (1 : Int32) S).2).2.2.1, ((r_X7_isArgument (1 : Int32) S).2).2.2.2.1, ((r_X7_isArgument (1 : Int32) S).2).2.2.2.2.1, ((r_X7_isArgument (1 : Int32) S).2).2.2.2.2.2.1, 2)) := by
                rw [r_X7_answer, if_neg zc1, if_neg zc3, if_neg zc4, if_neg zc6, if_neg zc8, if_pos zc9]
              exact qq_iret dX7_answer_102 rfl rfl ⟨by rw [ze], by rw [ze]; first | exact ms_pr hS6 | exact hS6, (fr_t (fr_t fr4 fr5) fr6)⟩
          · exact absurd zc8 qx_a1
def r_X7_below (how : Int32) (n9 : Int32) (k9 : Int32)  (S : sM) : Int32 × sM := if (f_X7_isIn how 0 3) = 0 then if ((r_X7_isArgument (0 : Int32) S).1) = 0 then (0, (r_X7_isArgument (0 : Int32) S).2) else (0, (r_X7_isArgument (0 : Int32) S).2) else if (f_X7_isIn k9 (-62) 90) = 0 then if ((r_X7_isArgument (0 : Int32) S).1) = 0 then (0, (r_X7_isArgument (0 : Int32) S).2) else (0, (r_X7_isArgument (0 : Int32) S).2) else if ((r_X7_isArgument (1 : Int32) S).1) = 0 then (0, (r_X7_isArgument (1 : Int32) S).2) else (r_X7_less how (r_X7_placed n9 (256 - k9)) ((r_X7_isArgument (1 : Int32) S).2), (r_X7_isArgument (1 : Int32) S).2)
set_option maxRecDepth 4000 in
theorem mt_X7_below (hp : qq_H) (A : qA) (S : sM) (hS : ms_M A S hp) (how : Int32) (n9 : Int32) (k9 : Int32)      : qq_Mt mX7_below [.ref 84, .int how, .int n9, .int k9] hp 34 374 (fun v hp' => v = some (.int ((r_X7_below how n9 k9 S).1)) ∧ ms_M A ((r_X7_below how n9 k9 S).2) hp' ∧ fr A hp hp') (fun _ _ => False) := by
  refine qq_met pn_X7 (Nat.le_of_ble_eq_true rfl) (Nat.le_of_ble_eq_true rfl) kc_X7_below ?_
  show qq_Go _ hp 34 374 0 [(0, .ref 84), (1, .int how), (2, .int n9), (3, .int k9)] [] _ _
  refine qq_aload_n dX7_below_0 rfl 0 rfl ?_
  refine qq_iload_n dX7_below_1 rfl 1 rfl ?_
  refine qq_iconst (v := 0) dX7_below_2 (by decide) ?_
  refine qq_iconst (v := 3) dX7_below_3 (by decide) ?_
  refine qq_less (bc' := 34 + 0) (bs' := 374 + 0) (by omega) (by omega) ?_
  refine qq_callS (bc := 34) (bs := 374) (mc := 0) (ms := 0) (as := [.int how, .int 0, .int 3]) (rest := [.ref 84]) dX7_below_4 (mt_X7_isIn hp how (0 : Int32) (3 : Int32)) rfl kl_X7_113 ks_X7_isIn ki_X7 kc_X7_isIn kd_X7_isIn rfl (by decide) (by decide) (Nat.le_of_ble_eq_true rfl) (fun v hp' hv _ _ => ?_) (fun E hp' zx _ _ => zx.elim)
  obtain ⟨rfl, rfl⟩ := hv
  show qq_Go _ hp (34) (374) 7 [(0, .ref 84), (1, .int how), (2, .int n9), (3, .int k9)] [.int (f_X7_isIn how 0 3), .ref 84] _ _
  refine qq_if_eq (tgt := 25) dX7_below_7 (by decide) (fun zc1 => ?_) (fun zc1 => ?_)
  · refine qq_iconst (v := 0) dX7_below_25 (by decide) ?_
    refine qq_less (bc' := 34 + 0) (bs' := 374 + 0) (by omega) (by omega) ?_
    refine qq_callV (bc := 34) (bs := 374) (mc := 0) (ms := 0) (o := 84) (ci := 4) (N := 11) (T := TX7) (as := [.int 0]) (rest := []) dX7_below_26 hS.2.2.1 (by decide) rfl (mt_X7_isArgument hp A S hS (0 : Int32) (Or.inl rfl)) rfl kl_X7_262 kn_X7_isArgument ke_X7_isArgument ki_X7 kc_X7_isArgument kd_X7_isArgument rfl (by decide) (by decide) (Nat.le_of_ble_eq_true rfl) (fun v hp1 hv _ _ => ?_) (fun E hp' zx _ _ => zx.elim)
    obtain ⟨rfl, hS1, fr1⟩ := hv
    show qq_Go _ hp1 (34) (374) 29 [(0, .ref 84), (1, .int how), (2, .int n9), (3, .int k9)] [.int ((r_X7_isArgument (0 : Int32) S).1)] _ _
    refine qq_if_ne (tgt := 34) dX7_below_29 (by decide) (fun zc2 => ?_) (fun zc2 => ?_)
    · exact absurd qx_a0 zc2
    · refine qq_iconst (v := 0) dX7_below_32 (by decide) ?_
      have ze : r_X7_below how n9 k9 S = (0, (r_X7_isArgument (0 : Int32) S).2) := by
        rw [r_X7_below, if_pos zc1, if_pos zc2]
      exact qq_iret dX7_below_33 rfl rfl ⟨by rw [ze], by rw [ze]; first | exact ms_pr hS1 | exact hS1, fr1⟩
  · have zw1 := qx_in4 zc1
    refine qq_iload_n dX7_below_10 rfl 3 rfl ?_
    refine qq_bipush (v := (-62)) dX7_below_11 (by decide) ?_
    refine qq_bipush (v := 90) dX7_below_13 (by decide) ?_
    refine qq_less (bc' := 34 + 0) (bs' := 374 + 0) (by omega) (by omega) ?_
    refine qq_callS (bc := 34) (bs := 374) (mc := 0) (ms := 0) (as := [.int k9, .int (-62), .int 90]) (rest := [.ref 84]) dX7_below_15 (mt_X7_isIn hp k9 (-62 : Int32) (90 : Int32)) rfl kl_X7_113 ks_X7_isIn ki_X7 kc_X7_isIn kd_X7_isIn rfl (by decide) (by decide) (Nat.le_of_ble_eq_true rfl) (fun v hp' hv _ _ => ?_) (fun E hp' zx _ _ => zx.elim)
    obtain ⟨rfl, rfl⟩ := hv
    show qq_Go _ hp (34) (374) 18 [(0, .ref 84), (1, .int how), (2, .int n9), (3, .int k9)] [.int (f_X7_isIn k9 (-62) 90), .ref 84] _ _
    refine qq_if_eq (tgt := 25) dX7_below_18 (by decide) (fun zc3 => ?_) (fun zc3 => ?_)
    · refine qq_iconst (v := 0) dX7_below_25 (by decide) ?_
      refine qq_less (bc' := 34 + 0) (bs' := 374 + 0) (by omega) (by omega) ?_
      refine qq_callV (bc := 34) (bs := 374) (mc := 0) (ms := 0) (o := 84) (ci := 4) (N := 11) (T := TX7) (as := [.int 0]) (rest := []) dX7_below_26 hS.2.2.1 (by decide) rfl (mt_X7_isArgument hp A S hS (0 : Int32) (Or.inl rfl)) rfl kl_X7_262 kn_X7_isArgument ke_X7_isArgument ki_X7 kc_X7_isArgument kd_X7_isArgument rfl (by decide) (by decide) (Nat.le_of_ble_eq_true rfl) (fun v hp2 hv _ _ => ?_) (fun E hp' zx _ _ => zx.elim)
      obtain ⟨rfl, hS2, fr2⟩ := hv
      show qq_Go _ hp2 (34) (374) 29 [(0, .ref 84), (1, .int how), (2, .int n9), (3, .int k9)] [.int ((r_X7_isArgument (0 : Int32) S).1)] _ _
      refine qq_if_ne (tgt := 34) dX7_below_29 (by decide) (fun zc4 => ?_) (fun zc4 => ?_)
      · exact absurd qx_a0 zc4
      · refine qq_iconst (v := 0) dX7_below_32 (by decide) ?_
        have ze : r_X7_below how n9 k9 S = (0, (r_X7_isArgument (0 : Int32) S).2) := by
          rw [r_X7_below, if_neg zc1, if_pos zc3, if_pos zc4]
        exact qq_iret dX7_below_33 rfl rfl ⟨by rw [ze], by rw [ze]; first | exact ms_pr hS2 | exact hS2, fr2⟩
    · have zp2 := qx_pl zc3
      refine qq_iconst (v := 1) dX7_below_21 (by decide) ?_
      refine qq_goto (tgt := 26) dX7_below_22 (by decide) ?_
      refine qq_less (bc' := 34 + 0) (bs' := 374 + 0) (by omega) (by omega) ?_
      refine qq_callV (bc := 34) (bs := 374) (mc := 0) (ms := 0) (o := 84) (ci := 4) (N := 11) (T := TX7) (as := [.int 1]) (rest := []) dX7_below_26 hS.2.2.1 (by decide) rfl (mt_X7_isArgument hp A S hS (1 : Int32) (Or.inr rfl)) rfl kl_X7_262 kn_X7_isArgument ke_X7_isArgument ki_X7 kc_X7_isArgument kd_X7_isArgument rfl (by decide) (by decide) (Nat.le_of_ble_eq_true rfl) (fun v hp3 hv _ _ => ?_) (fun E hp' zx _ _ => zx.elim)
      obtain ⟨rfl, hS3, fr3⟩ := hv
      show qq_Go _ hp3 (34) (374) 29 [(0, .ref 84), (1, .int how), (2, .int n9), (3, .int k9)] [.int ((r_X7_isArgument (1 : Int32) S).1)] _ _
      refine qq_if_ne (tgt := 34) dX7_below_29 (by decide) (fun zc5 => ?_) (fun zc5 => ?_)
      · refine qq_aload_n dX7_below_34 rfl 0 rfl ?_
        refine qq_iload_n dX7_below_35 rfl 1 rfl ?_
        refine qq_iload_n dX7_below_36 rfl 2 rfl ?_
        refine qq_sipush (v := 256) dX7_below_37 (by decide) ?_
        refine qq_iload_n dX7_below_40 rfl 3 rfl ?_
        refine qq_isub dX7_below_41 ?_
        refine qq_less (bc' := 33 + 1) (bs' := 363 + 11) (by omega) (by omega) ?_
        refine qq_callS (bc := 33) (bs := 363) (mc := 1) (ms := 11) (as := [.int n9, .int (256 - k9)]) (rest := [.int how, .ref 84]) dX7_below_42 (mt_X7_placed hp3 n9 (256 - k9) (ms_80 hS3) (qm_pl0 zp2.1)) rfl kl_X7_78 ks_X7_placed ki_X7 kc_X7_placed kd_X7_placed rfl (by decide) (by decide) (Nat.le_of_ble_eq_true rfl) (fun v hp4 hv _ _ => ?_) (fun E hp' zx _ _ => zx.elim)
        obtain ⟨rfl, hv⟩ := hv
        obtain ⟨hS4, fr4, hr_n4, hl_n4⟩ := ms_n hS3 hv
        show qq_Go _ hp4 (33) (363) 45 [(0, .ref 84), (1, .int how), (2, .int n9), (3, .int k9)] [.ref hp3.1, .int how, .ref 84] _ _
        refine qq_less (bc' := 0 + 33) (bs' := 0 + 363) (by omega) (by omega) ?_
        refine qq_callV (bc := 0) (bs := 0) (mc := 33) (ms := 363) (o := 84) (ci := 4) (N := 11) (T := TX7) (as := [.int how, .ref hp3.1]) (rest := []) dX7_below_45 hS4.2.2.1 (by decide) rfl (mt_X7_less hp4 A ((r_X7_isArgument (1 : Int32) S).2) hS4 how hp3.1 (r_X7_placed n9 (256 - k9)) hr_n4 hl_n4 zw1) rfl kl_X7_249 kn_X7_less ke_X7_less ki_X7 kc_X7_less kd_X7_less rfl (by decide) (by decide) (Nat.le_of_ble_eq_true rfl) (fun v hp5 hv _ _ => ?_) (fun E hp' zx _ _ => zx.elim)
        obtain ⟨rfl, hS5, fr5⟩ := hv
        have hr_3 := fr_w fr5 hS4 hl_n4 hr_n4 (by decide)
        have hl_3 := fr_l fr5 hl_n4
        show qq_Go _ hp5 (0) (0) 48 [(0, .ref 84), (1, .int how), (2, .int n9), (3, .int k9)] [.int (r_X7_less how (r_X7_placed n9 (256 - k9)) ((r_X7_isArgument (1 : Int32) S).2))] _ _
        have ze : r_X7_below how n9 k9 S = (r_X7_less how (r_X7_placed n9 (256 - k9)) ((r_X7_isArgument (1 : Int32) S).2), (r_X7_isArgument (1 : Int32) S).2) := by
          rw [r_X7_below, if_neg zc1, if_neg zc3, if_neg zc5]
        exact qq_iret dX7_below_48 rfl rfl ⟨by rw [ze], by rw [ze]; first | exact ms_pr hS5 | exact hS5, (fr_t (fr_t fr3 fr4) fr5)⟩
      · exact absurd zc5 qx_a1
def r_X7_between (q9 : Int32)  (S : sM) : Int32 × sM := if ((r_X7_isArgument (r_X7_isOf (2 : Int32) q9 S) S).1) = 0 then (0, (r_X7_isArgument (r_X7_isOf (2 : Int32) q9 S) S).2) else if (r_X7_compare (r_X7_trueIn (2 : Int32) q9 ((r_X7_isArgument (r_X7_isOf (2 : Int32) q9 S) S).2)) (r_X7_quarterOf (-4 : Int32))) ≤ 0 then (0, (r_X7_isArgument (r_X7_isOf (2 : Int32) q9 S) S).2) else if (r_X7_compare (r_X7_trueIn (2 : Int32) q9 ((r_X7_isArgument (r_X7_isOf (2 : Int32) q9 S) S).2)) (r_X7_quarterOf q9)) ≤ 0 then (0, (r_X7_isArgument (r_X7_isOf (2 : Int32) q9 S) S).2) else if 0 ≤ (r_X7_compare (r_X7_trueIn (2 : Int32) q9 ((r_X7_isArgument (r_X7_isOf (2 : Int32) q9 S) S).2)) (r_X7_trueIn (1 : Int32) q9 ((r_X7_isArgument (r_X7_isOf (2 : Int32) q9 S) S).2))) then (0, (r_X7_isArgument (r_X7_isOf (2 : Int32) q9 S) S).2) else (1, (r_X7_isArgument (r_X7_isOf (2 : Int32) q9 S) S).2)
set_option maxRecDepth 4000 in
theorem mt_X7_between (hp : qq_H) (A : qA) (S : sM) (hS : ms_M A S hp) (q9 : Int32)      : qq_Mt mX7_between [.ref 84, .int q9] hp 8 88 (fun v hp' => v = some (.int ((r_X7_between q9 S).1)) ∧ ms_M A ((r_X7_between q9 S).2) hp' ∧ fr A hp hp') (fun _ _ => False) := by
  refine qq_met pn_X7 (Nat.le_of_ble_eq_true rfl) (Nat.le_of_ble_eq_true rfl) kc_X7_between ?_
  show qq_Go _ hp 8 88 0 [(0, .ref 84), (1, .int q9)] [] _ _
  refine qq_aload_n dX7_between_0 rfl 0 rfl ?_
  refine qq_iconst (v := 2) dX7_between_1 (by decide) ?_
  refine qq_iload_n dX7_between_2 rfl 1 rfl ?_
  refine qq_less (bc' := 8 + 0) (bs' := 88 + 0) (by omega) (by omega) ?_
  refine qq_callS (bc := 8) (bs := 88) (mc := 0) (ms := 0) (as := [.int 2, .int q9]) (rest := [.ref 84]) dX7_between_3 (mt_X7_isOf hp A S hS (2 : Int32) q9 (vp_d (by decide))) rfl kl_X7_259 ks_X7_isOf ki_X7 kc_X7_isOf kd_X7_isOf rfl (by decide) (by decide) (Nat.le_of_ble_eq_true rfl) (fun v hp' hv _ _ => ?_) (fun E hp' zx _ _ => zx.elim)
  obtain ⟨rfl, rfl⟩ := hv
  show qq_Go _ hp (8) (88) 6 [(0, .ref 84), (1, .int q9)] [.int (r_X7_isOf (2 : Int32) q9 S), .ref 84] _ _
  refine qq_less (bc' := 8 + 0) (bs' := 88 + 0) (by omega) (by omega) ?_
  refine qq_callV (bc := 8) (bs := 88) (mc := 0) (ms := 0) (o := 84) (ci := 4) (N := 11) (T := TX7) (as := [.int (r_X7_isOf (2 : Int32) q9 S)]) (rest := []) dX7_between_6 hS.2.2.1 (by decide) rfl (mt_X7_isArgument hp A S hS (r_X7_isOf (2 : Int32) q9 S) (bz_X7_isOf (2 : Int32) q9 S)) rfl kl_X7_262 kn_X7_isArgument ke_X7_isArgument ki_X7 kc_X7_isArgument kd_X7_isArgument rfl (by decide) (by decide) (Nat.le_of_ble_eq_true rfl) (fun v hp1 hv _ _ => ?_) (fun E hp' zx _ _ => zx.elim)
  obtain ⟨rfl, hS1, fr1⟩ := hv
  show qq_Go _ hp1 (8) (88) 9 [(0, .ref 84), (1, .int q9)] [.int ((r_X7_isArgument (r_X7_isOf (2 : Int32) q9 S) S).1)] _ _
  refine qq_if_ne (tgt := 14) dX7_between_9 (by decide) (fun zc1 => ?_) (fun zc1 => ?_)
  · have za1 := qx_an zc1
    refine qq_aload_n dX7_between_14 rfl 0 rfl ?_
    refine qq_iconst (v := 2) dX7_between_15 (by decide) ?_
    refine qq_iload_n dX7_between_16 rfl 1 rfl ?_
    refine qq_less (bc' := 5 + 3) (bs' := 55 + 33) (by omega) (by omega) ?_
    refine qq_callV (bc := 5) (bs := 55) (mc := 3) (ms := 33) (o := 84) (ci := 4) (N := 11) (T := TX7) (as := [.int 2, .int q9]) (rest := []) dX7_between_17 hS1.2.2.1 (by decide) rfl (mt_X7_trueIn hp1 A ((r_X7_isArgument (r_X7_isOf (2 : Int32) q9 S) S).2) hS1 (2 : Int32) q9 (tq_of (vp_d (by decide)) za1)) rfl kl_X7_256 kn_X7_trueIn ke_X7_trueIn ki_X7 kc_X7_trueIn kd_X7_trueIn rfl (by decide) (by decide) (Nat.le_of_ble_eq_true rfl) (fun v hp2 hv _ _ => ?_) (fun E hp' zx _ _ => zx.elim)
    obtain ⟨rj2, rfl, hS2, fr2, hr_n2, hl_n2⟩ := hv
    show qq_Go _ hp2 (5) (55) 20 [(0, .ref 84), (1, .int q9)] [.ref rj2] _ _
    refine qq_astore_n (loc' := [(0, .ref 84), (1, .int q9), (2, .ref rj2)]) dX7_between_20 rfl [1, 2, 0] (Nat.le_of_ble_eq_true rfl) rfl ?_
    refine qq_aload_n dX7_between_21 rfl 2 rfl ?_
    refine qq_bipush (v := (-4)) dX7_between_22 (by decide) ?_
    refine qq_less (bc' := 4 + 1) (bs' := 44 + 11) (by omega) (by omega) ?_
    refine qq_callS (bc := 4) (bs := 44) (mc := 1) (ms := 11) (as := [.int (-4)]) (rest := [.ref rj2]) dX7_between_24 (mt_X7_quarterOf hp2 (-4 : Int32) (ms_80 hS2) ) rfl kl_X7_38 ks_X7_quarterOf ki_X7 kc_X7_quarterOf kd_X7_quarterOf rfl (by decide) (by decide) (Nat.le_of_ble_eq_true rfl) (fun v hp3 hv _ _ => ?_) (fun E hp' zx _ _ => zx.elim)
    obtain ⟨rfl, hv⟩ := hv
    obtain ⟨hS3, fr3, hr_n3, hl_n3⟩ := ms_n hS2 hv
    have hr_2 := fr_w fr3 hS2 hl_n2 hr_n2 (by decide)
    have hl_2 := fr_l fr3 hl_n2
    show qq_Go _ hp3 (4) (44) 27 [(0, .ref 84), (1, .int q9), (2, .ref rj2)] [.ref hp2.1, .ref rj2] _ _
    refine qq_less (bc' := 4 + 0) (bs' := 44 + 0) (by omega) (by omega) ?_
    refine qq_callS (bc := 4) (bs := 44) (mc := 0) (ms := 0) (as := [.ref rj2, .ref hp2.1]) (rest := []) dX7_between_27 (mt_X7_compare hp3 rj2 hp2.1 (r_X7_trueIn (2 : Int32) q9 ((r_X7_isArgument (r_X7_isOf (2 : Int32) q9 S) S).2)) (r_X7_quarterOf (-4 : Int32)) hr_2 hr_n3 ) rfl kl_X7_106 ks_X7_compare ki_X7 kc_X7_compare kd_X7_compare rfl (by decide) (by decide) (Nat.le_of_ble_eq_true rfl) (fun v hp' hv _ _ => ?_) (fun E hp' zx _ _ => zx.elim)
    obtain ⟨rfl, rfl⟩ := hv
    show qq_Go _ hp3 (4) (44) 30 [(0, .ref 84), (1, .int q9), (2, .ref rj2)] [.int (r_X7_compare (r_X7_trueIn (2 : Int32) q9 ((r_X7_isArgument (r_X7_isOf (2 : Int32) q9 S) S).2)) (r_X7_quarterOf (-4 : Int32)))] _ _
    refine qq_if_le (tgt := 61) dX7_between_30 (by decide) (fun zc2 => ?_) (fun zc2 => ?_)
    · refine qq_iconst (v := 0) dX7_between_61 (by decide) ?_
      have ze : r_X7_between q9 S = (0, (r_X7_isArgument (r_X7_isOf (2 : Int32) q9 S) S).2) := by
        rw [r_X7_between, if_neg zc1, if_pos zc2]
      exact qq_iret dX7_between_62 rfl rfl ⟨by rw [ze], by rw [ze]; first | exact ms_pr hS3 | exact hS3, (fr_t (fr_t fr1 fr2) fr3)⟩
    · refine qq_aload_n dX7_between_33 rfl 2 rfl ?_
      refine qq_iload_n dX7_between_34 rfl 1 rfl ?_
      refine qq_less (bc' := 3 + 1) (bs' := 33 + 11) (by omega) (by omega) ?_
      refine qq_callS (bc := 3) (bs := 33) (mc := 1) (ms := 11) (as := [.int q9]) (rest := [.ref rj2]) dX7_between_35 (mt_X7_quarterOf hp3 q9 (ms_80 hS3) ) rfl kl_X7_38 ks_X7_quarterOf ki_X7 kc_X7_quarterOf kd_X7_quarterOf rfl (by decide) (by decide) (Nat.le_of_ble_eq_true rfl) (fun v hp4 hv _ _ => ?_) (fun E hp' zx _ _ => zx.elim)
      obtain ⟨rfl, hv⟩ := hv
      obtain ⟨hS4, fr4, hr_n4, hl_n4⟩ := ms_n hS3 hv
      have hr_3 := fr_w fr4 hS3 hl_2 hr_2 (by decide)
      have hl_3 := fr_l fr4 hl_2
      show qq_Go _ hp4 (3) (33) 38 [(0, .ref 84), (1, .int q9), (2, .ref rj2)] [.ref hp3.1, .ref rj2] _ _
      refine qq_less (bc' := 3 + 0) (bs' := 33 + 0) (by omega) (by omega) ?_
      refine qq_callS (bc := 3) (bs := 33) (mc := 0) (ms := 0) (as := [.ref rj2, .ref hp3.1]) (rest := []) dX7_between_38 (mt_X7_compare hp4 rj2 hp3.1 (r_X7_trueIn (2 : Int32) q9 ((r_X7_isArgument (r_X7_isOf (2 : Int32) q9 S) S).2)) (r_X7_quarterOf q9) hr_3 hr_n4 ) rfl kl_X7_106 ks_X7_compare ki_X7 kc_X7_compare kd_X7_compare rfl (by decide) (by decide) (Nat.le_of_ble_eq_true rfl) (fun v hp' hv _ _ => ?_) (fun E hp' zx _ _ => zx.elim)
      obtain ⟨rfl, rfl⟩ := hv
      show qq_Go _ hp4 (3) (33) 41 [(0, .ref 84), (1, .int q9), (2, .ref rj2)] [.int (r_X7_compare (r_X7_trueIn (2 : Int32) q9 ((r_X7_isArgument (r_X7_isOf (2 : Int32) q9 S) S).2)) (r_X7_quarterOf q9))] _ _
      refine qq_if_le (tgt := 61) dX7_between_41 (by decide) (fun zc3 => ?_) (fun zc3 => ?_)
      · refine qq_iconst (v := 0) dX7_between_61 (by decide) ?_
        have ze : r_X7_between q9 S = (0, (r_X7_isArgument (r_X7_isOf (2 : Int32) q9 S) S).2) := by
          rw [r_X7_between, if_neg zc1, if_neg zc2, if_pos zc3]
        exact qq_iret dX7_between_62 rfl rfl ⟨by rw [ze], by rw [ze]; first | exact ms_pr hS4 | exact hS4, (fr_t (fr_t (fr_t fr1 fr2) fr3) fr4)⟩
      · refine qq_aload_n dX7_between_44 rfl 2 rfl ?_
        refine qq_aload_n dX7_between_45 rfl 0 rfl ?_
        refine qq_iconst (v := 1) dX7_between_46 (by decide) ?_
        refine qq_iload_n dX7_between_47 rfl 1 rfl ?_
        refine qq_less (bc' := 0 + 3) (bs' := 0 + 33) (by omega) (by omega) ?_
        refine qq_callV (bc := 0) (bs := 0) (mc := 3) (ms := 33) (o := 84) (ci := 4) (N := 11) (T := TX7) (as := [.int 1, .int q9]) (rest := [.ref rj2]) dX7_between_48 hS4.2.2.1 (by decide) rfl (mt_X7_trueIn hp4 A ((r_X7_isArgument (r_X7_isOf (2 : Int32) q9 S) S).2) hS4 (1 : Int32) q9 (tq_12 za1)) rfl kl_X7_256 kn_X7_trueIn ke_X7_trueIn ki_X7 kc_X7_trueIn kd_X7_trueIn rfl (by decide) (by decide) (Nat.le_of_ble_eq_true rfl) (fun v hp5 hv _ _ => ?_) (fun E hp' zx _ _ => zx.elim)
        obtain ⟨rj5, rfl, hS5, fr5, hr_n5, hl_n5⟩ := hv
        have hr_4 := fr_w fr5 hS4 hl_3 hr_3 (by decide)
        have hl_4 := fr_l fr5 hl_3
        show qq_Go _ hp5 (0) (0) 51 [(0, .ref 84), (1, .int q9), (2, .ref rj2)] [.ref rj5, .ref rj2] _ _
        refine qq_less (bc' := 0 + 0) (bs' := 0 + 0) (by omega) (by omega) ?_
        refine qq_callS (bc := 0) (bs := 0) (mc := 0) (ms := 0) (as := [.ref rj2, .ref rj5]) (rest := []) dX7_between_51 (mt_X7_compare hp5 rj2 rj5 (r_X7_trueIn (2 : Int32) q9 ((r_X7_isArgument (r_X7_isOf (2 : Int32) q9 S) S).2)) (r_X7_trueIn (1 : Int32) q9 ((r_X7_isArgument (r_X7_isOf (2 : Int32) q9 S) S).2)) hr_4 hr_n5 ) rfl kl_X7_106 ks_X7_compare ki_X7 kc_X7_compare kd_X7_compare rfl (by decide) (by decide) (Nat.le_of_ble_eq_true rfl) (fun v hp' hv _ _ => ?_) (fun E hp' zx _ _ => zx.elim)
        obtain ⟨rfl, rfl⟩ := hv
        show qq_Go _ hp5 (0) (0) 54 [(0, .ref 84), (1, .int q9), (2, .ref rj2)] [.int (r_X7_compare (r_X7_trueIn (2 : Int32) q9 ((r_X7_isArgument (r_X7_isOf (2 : Int32) q9 S) S).2)) (r_X7_trueIn (1 : Int32) q9 ((r_X7_isArgument (r_X7_isOf (2 : Int32) q9 S) S).2)))] _ _
        refine qq_if_ge (tgt := 61) dX7_between_54 (by decide) (fun zc4 => ?_) (fun zc4 => ?_)
        · refine qq_iconst (v := 0) dX7_between_61 (by decide) ?_
          have ze : r_X7_between q9 S = (0, (r_X7_isArgument (r_X7_isOf (2 : Int32) q9 S) S).2) := by
            rw [r_X7_between, if_neg zc1, if_neg zc2, if_neg zc3, if_pos zc4]
          exact qq_iret dX7_between_62 rfl rfl ⟨by rw [ze], by rw [ze]; first | exact ms_pr hS5 | exact hS5, (fr_t (fr_t (fr_t (fr_t fr1 fr2) fr3) fr4) fr5)⟩
        · refine qq_iconst (v := 1) dX7_between_57 (by decide) ?_
          refine qq_goto (tgt := 62) dX7_between_58 (by decide) ?_
          have ze : r_X7_between q9 S = (1, (r_X7_isArgument (r_X7_isOf (2 : Int32) q9 S) S).2) := by
            rw [r_X7_between, if_neg zc1, if_neg zc2, if_neg zc3, if_neg zc4]
          exact qq_iret dX7_between_62 rfl rfl ⟨by rw [ze], by rw [ze]; first | exact ms_pr hS5 | exact hS5, (fr_t (fr_t (fr_t (fr_t fr1 fr2) fr3) fr4) fr5)⟩
  · refine qq_iconst (v := 0) dX7_between_12 (by decide) ?_
    have ze : r_X7_between q9 S = (0, (r_X7_isArgument (r_X7_isOf (2 : Int32) q9 S) S).2) := by
      rw [r_X7_between, if_pos zc1]
    exact qq_iret dX7_between_13 rfl rfl ⟨by rw [ze], by rw [ze]; first | exact ms_pr hS1 | exact hS1, fr1⟩
def r_X7_lies (q9 : Int32)  (S : sM) : Int32 × sM := if ((r_X7_isArgument (r_X7_isOf (3 : Int32) q9 S) S).1) = 0 then (0, (r_X7_isArgument (r_X7_isOf (3 : Int32) q9 S) S).2) else if 0 ≤ (r_X7_compare (r_X7_trueIn (3 : Int32) q9 ((r_X7_isArgument (r_X7_isOf (3 : Int32) q9 S) S).2)) (r_X7_quarterOf q9)) then (0, (r_X7_isArgument (r_X7_isOf (3 : Int32) q9 S) S).2) else (1, (r_X7_isArgument (r_X7_isOf (3 : Int32) q9 S) S).2)
set_option maxRecDepth 4000 in
theorem mt_X7_lies (hp : qq_H) (A : qA) (S : sM) (hS : ms_M A S hp) (q9 : Int32)      : qq_Mt mX7_lies [.ref 84, .int q9] hp 4 44 (fun v hp' => v = some (.int ((r_X7_lies q9 S).1)) ∧ ms_M A ((r_X7_lies q9 S).2) hp' ∧ fr A hp hp') (fun _ _ => False) := by
  refine qq_met pn_X7 (Nat.le_of_ble_eq_true rfl) (Nat.le_of_ble_eq_true rfl) kc_X7_lies ?_
  show qq_Go _ hp 4 44 0 [(0, .ref 84), (1, .int q9)] [] _ _
  refine qq_aload_n dX7_lies_0 rfl 0 rfl ?_
  refine qq_iconst (v := 3) dX7_lies_1 (by decide) ?_
  refine qq_iload_n dX7_lies_2 rfl 1 rfl ?_
  refine qq_less (bc' := 4 + 0) (bs' := 44 + 0) (by omega) (by omega) ?_
  refine qq_callS (bc := 4) (bs := 44) (mc := 0) (ms := 0) (as := [.int 3, .int q9]) (rest := [.ref 84]) dX7_lies_3 (mt_X7_isOf hp A S hS (3 : Int32) q9 (vp_d (by decide))) rfl kl_X7_259 ks_X7_isOf ki_X7 kc_X7_isOf kd_X7_isOf rfl (by decide) (by decide) (Nat.le_of_ble_eq_true rfl) (fun v hp' hv _ _ => ?_) (fun E hp' zx _ _ => zx.elim)
  obtain ⟨rfl, rfl⟩ := hv
  show qq_Go _ hp (4) (44) 6 [(0, .ref 84), (1, .int q9)] [.int (r_X7_isOf (3 : Int32) q9 S), .ref 84] _ _
  refine qq_less (bc' := 4 + 0) (bs' := 44 + 0) (by omega) (by omega) ?_
  refine qq_callV (bc := 4) (bs := 44) (mc := 0) (ms := 0) (o := 84) (ci := 4) (N := 11) (T := TX7) (as := [.int (r_X7_isOf (3 : Int32) q9 S)]) (rest := []) dX7_lies_6 hS.2.2.1 (by decide) rfl (mt_X7_isArgument hp A S hS (r_X7_isOf (3 : Int32) q9 S) (bz_X7_isOf (3 : Int32) q9 S)) rfl kl_X7_262 kn_X7_isArgument ke_X7_isArgument ki_X7 kc_X7_isArgument kd_X7_isArgument rfl (by decide) (by decide) (Nat.le_of_ble_eq_true rfl) (fun v hp1 hv _ _ => ?_) (fun E hp' zx _ _ => zx.elim)
  obtain ⟨rfl, hS1, fr1⟩ := hv
  show qq_Go _ hp1 (4) (44) 9 [(0, .ref 84), (1, .int q9)] [.int ((r_X7_isArgument (r_X7_isOf (3 : Int32) q9 S) S).1)] _ _
  refine qq_if_eq (tgt := 32) dX7_lies_9 (by decide) (fun zc1 => ?_) (fun zc1 => ?_)
  · refine qq_iconst (v := 0) dX7_lies_32 (by decide) ?_
    have ze : r_X7_lies q9 S = (0, (r_X7_isArgument (r_X7_isOf (3 : Int32) q9 S) S).2) := by
      rw [r_X7_lies, if_pos zc1]
    exact qq_iret dX7_lies_33 rfl rfl ⟨by rw [ze], by rw [ze]; first | exact ms_pr hS1 | exact hS1, fr1⟩
  · have za1 := qx_an zc1
    refine qq_aload_n dX7_lies_12 rfl 0 rfl ?_
    refine qq_iconst (v := 3) dX7_lies_13 (by decide) ?_
    refine qq_iload_n dX7_lies_14 rfl 1 rfl ?_
    refine qq_less (bc' := 1 + 3) (bs' := 11 + 33) (by omega) (by omega) ?_
    refine qq_callV (bc := 1) (bs := 11) (mc := 3) (ms := 33) (o := 84) (ci := 4) (N := 11) (T := TX7) (as := [.int 3, .int q9]) (rest := []) dX7_lies_15 hS1.2.2.1 (by decide) rfl (mt_X7_trueIn hp1 A ((r_X7_isArgument (r_X7_isOf (3 : Int32) q9 S) S).2) hS1 (3 : Int32) q9 (tq_of (vp_d (by decide)) za1)) rfl kl_X7_256 kn_X7_trueIn ke_X7_trueIn ki_X7 kc_X7_trueIn kd_X7_trueIn rfl (by decide) (by decide) (Nat.le_of_ble_eq_true rfl) (fun v hp2 hv _ _ => ?_) (fun E hp' zx _ _ => zx.elim)
    obtain ⟨rj2, rfl, hS2, fr2, hr_n2, hl_n2⟩ := hv
    show qq_Go _ hp2 (1) (11) 18 [(0, .ref 84), (1, .int q9)] [.ref rj2] _ _
    refine qq_iload_n dX7_lies_18 rfl 1 rfl ?_
    refine qq_less (bc' := 0 + 1) (bs' := 0 + 11) (by omega) (by omega) ?_
    refine qq_callS (bc := 0) (bs := 0) (mc := 1) (ms := 11) (as := [.int q9]) (rest := [.ref rj2]) dX7_lies_19 (mt_X7_quarterOf hp2 q9 (ms_80 hS2) ) rfl kl_X7_38 ks_X7_quarterOf ki_X7 kc_X7_quarterOf kd_X7_quarterOf rfl (by decide) (by decide) (Nat.le_of_ble_eq_true rfl) (fun v hp3 hv _ _ => ?_) (fun E hp' zx _ _ => zx.elim)
    obtain ⟨rfl, hv⟩ := hv
    obtain ⟨hS3, fr3, hr_n3, hl_n3⟩ := ms_n hS2 hv
    have hr_2 := fr_w fr3 hS2 hl_n2 hr_n2 (by decide)
    have hl_2 := fr_l fr3 hl_n2
    show qq_Go _ hp3 (0) (0) 22 [(0, .ref 84), (1, .int q9)] [.ref hp2.1, .ref rj2] _ _
    refine qq_less (bc' := 0 + 0) (bs' := 0 + 0) (by omega) (by omega) ?_
    refine qq_callS (bc := 0) (bs := 0) (mc := 0) (ms := 0) (as := [.ref rj2, .ref hp2.1]) (rest := []) dX7_lies_22 (mt_X7_compare hp3 rj2 hp2.1 (r_X7_trueIn (3 : Int32) q9 ((r_X7_isArgument (r_X7_isOf (3 : Int32) q9 S) S).2)) (r_X7_quarterOf q9) hr_2 hr_n3 ) rfl kl_X7_106 ks_X7_compare ki_X7 kc_X7_compare kd_X7_compare rfl (by decide) (by decide) (Nat.le_of_ble_eq_true rfl) (fun v hp' hv _ _ => ?_) (fun E hp' zx _ _ => zx.elim)
    obtain ⟨rfl, rfl⟩ := hv
    show qq_Go _ hp3 (0) (0) 25 [(0, .ref 84), (1, .int q9)] [.int (r_X7_compare (r_X7_trueIn (3 : Int32) q9 ((r_X7_isArgument (r_X7_isOf (3 : Int32) q9 S) S).2)) (r_X7_quarterOf q9))] _ _
    refine qq_if_ge (tgt := 32) dX7_lies_25 (by decide) (fun zc2 => ?_) (fun zc2 => ?_)
    · refine qq_iconst (v := 0) dX7_lies_32 (by decide) ?_
      have ze : r_X7_lies q9 S = (0, (r_X7_isArgument (r_X7_isOf (3 : Int32) q9 S) S).2) := by
        rw [r_X7_lies, if_neg zc1, if_pos zc2]
      exact qq_iret dX7_lies_33 rfl rfl ⟨by rw [ze], by rw [ze]; first | exact ms_pr hS3 | exact hS3, (fr_t (fr_t fr1 fr2) fr3)⟩
    · refine qq_iconst (v := 1) dX7_lies_28 (by decide) ?_
      refine qq_goto (tgt := 33) dX7_lies_29 (by decide) ?_
      have ze : r_X7_lies q9 S = (1, (r_X7_isArgument (r_X7_isOf (3 : Int32) q9 S) S).2) := by
        rw [r_X7_lies, if_neg zc1, if_neg zc2]
      exact qq_iret dX7_lies_33 rfl rfl ⟨by rw [ze], by rw [ze]; first | exact ms_pr hS3 | exact hS3, (fr_t (fr_t fr1 fr2) fr3)⟩
def lf_X7_rises_73 (how : Int32) (from9 : Int32) (to9 : Int32)  : Nat → Int32 → sM → Int32
  | 0, q9, S => 1
  | fu + 1, q9, S => if to9 ≤ q9 then 1 else if (r_X7_compare (r_X7_trueIn how q9 S) (r_X7_trueIn how (q9 + 1) S)) < 0 then lf_X7_rises_73 how from9 to9 fu (q9 + 1) S else 0
set_option maxRecDepth 4000 in
theorem lq_X7_rises_73 (how : Int32) (from9 : Int32) (to9 : Int32) (A : qA) (S : sM)  (zw9 : vp_in how 4) {P : Option Value → qq_H → Prop} {PX : String → qq_H → Prop} : ∀ (fu : Nat) (q9 : Int32) (hp : qq_H) , ms_M A S hp → rs_I how q9 to9 → (to9.toInt - q9.toInt).toNat < fu → ∀ (bc bs : Nat), (lf_X7_rises_73 how from9 to9 fu q9 S = 1 → ∀ hp' : qq_H, ms_M A S hp' → fr A hp hp' → qq_Go mX7_rises hp' bc bs 109 [(0, .ref 84), (1, .int how), (2, .int from9), (3, .int to9)] [] P PX) → (lf_X7_rises_73 how from9 to9 fu q9 S = 0 → ∀ hp' : qq_H, ms_M A S hp' → fr A hp hp' → P (some (.int 0)) hp') → qq_Go mX7_rises hp (6 * fu + bc) (66 * fu + bs) 73 [(0, .ref 84), (1, .int how), (2, .int from9), (3, .int to9), (4, .int q9)] [] P PX := by
  intro fu
  induction fu with
  | zero => intro q9 hp hS zr zz; exact absurd zz (Nat.not_lt_zero _)
  | succ fu lqih =>
    intro q9 hp hS zr zh bc bs hk1 hk0; have hk := And.intro hk1 hk0; clear hk1 hk0
    refine qq_iload dX7_rises_73 4 rfl ?_
    refine qq_iload_n dX7_rises_75 rfl 3 rfl ?_
    refine qq_icmp_ge (tgt := 109) dX7_rises_76 (by decide) (fun zc1 => ?_) (fun zc1 => ?_)
    · have ze : lf_X7_rises_73 how from9 to9 (fu + 1) q9 S = 1 := by
        rw [lf_X7_rises_73, if_pos zc1]
      refine qq_loc [0, 1, 2, 3] rfl ?_
      refine qq_less (bc' := bc) (bs' := bs) (by omega) (by omega) ?_
      exact hk.1 ze hp hS (fr_r _ _)
    · refine qq_aload_n dX7_rises_79 rfl 0 rfl ?_
      refine qq_iload_n dX7_rises_80 rfl 1 rfl ?_
      refine qq_iload dX7_rises_81 4 rfl ?_
      refine qq_less (bc' := 6 * fu + bc + 3 + 3) (bs' := 66 * fu + bs + 33 + 33) (by omega) (by omega) ?_
      refine qq_callV (bc := 6 * fu + bc + 3) (bs := 66 * fu + bs + 33) (mc := 3) (ms := 33) (o := 84) (ci := 4) (N := 11) (T := TX7) (as := [.int how, .int q9]) (rest := []) dX7_rises_83 hS.2.2.1 (by decide) rfl (mt_X7_trueIn hp A S hS how q9 (rs_1 zw9 zr (by assumption)).2.1) rfl kl_X7_256 kn_X7_trueIn ke_X7_trueIn ki_X7 kc_X7_trueIn kd_X7_trueIn rfl (by decide) (by decide) (Nat.le_of_ble_eq_true rfl) (fun v hp1 hv _ _ => ?_) (fun E hp' zx _ _ => zx.elim)
      obtain ⟨rj1, rfl, hS1, fr1, hr_n1, hl_n1⟩ := hv
      show qq_Go _ hp1 (6 * fu + bc + 3) (66 * fu + bs + 33) 86 [(0, .ref 84), (1, .int how), (2, .int from9), (3, .int to9), (4, .int q9)] [.ref rj1] _ _
      refine qq_aload_n dX7_rises_86 rfl 0 rfl ?_
      refine qq_iload_n dX7_rises_87 rfl 1 rfl ?_
      refine qq_iload dX7_rises_88 4 rfl ?_
      refine qq_iconst (v := 1) dX7_rises_90 (by decide) ?_
      refine qq_iadd dX7_rises_91 ?_
      refine qq_less (bc' := 6 * fu + bc + 3) (bs' := 66 * fu + bs + 33) (by omega) (by omega) ?_
      refine qq_callV (bc := 6 * fu + bc) (bs := 66 * fu + bs) (mc := 3) (ms := 33) (o := 84) (ci := 4) (N := 11) (T := TX7) (as := [.int how, .int (q9 + 1)]) (rest := [.ref rj1]) dX7_rises_92 hS1.2.2.1 (by decide) rfl (mt_X7_trueIn hp1 A S hS1 how (q9 + 1) (rs_1 zw9 zr (by assumption)).2.2.1) rfl kl_X7_256 kn_X7_trueIn ke_X7_trueIn ki_X7 kc_X7_trueIn kd_X7_trueIn rfl (by decide) (by decide) (Nat.le_of_ble_eq_true rfl) (fun v hp2 hv _ _ => ?_) (fun E hp' zx _ _ => zx.elim)
      obtain ⟨rj2, rfl, hS2, fr2, hr_n2, hl_n2⟩ := hv
      have hr_1 := fr_w fr2 hS1 hl_n1 hr_n1 (by decide)
      have hl_1 := fr_l fr2 hl_n1
      show qq_Go _ hp2 (6 * fu + bc) (66 * fu + bs) 95 [(0, .ref 84), (1, .int how), (2, .int from9), (3, .int to9), (4, .int q9)] [.ref rj2, .ref rj1] _ _
      refine qq_less (bc' := 6 * fu + bc + 0) (bs' := 66 * fu + bs + 0) (by omega) (by omega) ?_
      refine qq_callS (bc := 6 * fu + bc) (bs := 66 * fu + bs) (mc := 0) (ms := 0) (as := [.ref rj1, .ref rj2]) (rest := []) dX7_rises_95 (mt_X7_compare hp2 rj1 rj2 (r_X7_trueIn how q9 S) (r_X7_trueIn how (q9 + 1) S) hr_1 hr_n2 ) rfl kl_X7_106 ks_X7_compare ki_X7 kc_X7_compare kd_X7_compare rfl (by decide) (by decide) (Nat.le_of_ble_eq_true rfl) (fun v hp' hv _ _ => ?_) (fun E hp' zx _ _ => zx.elim)
      obtain ⟨rfl, rfl⟩ := hv
      show qq_Go _ hp2 (6 * fu + bc) (66 * fu + bs) 98 [(0, .ref 84), (1, .int how), (2, .int from9), (3, .int to9), (4, .int q9)] [.int (r_X7_compare (r_X7_trueIn how q9 S) (r_X7_trueIn how (q9 + 1) S))] _ _
      refine qq_if_lt (tgt := 103) dX7_rises_98 (by decide) (fun zc2 => ?_) (fun zc2 => ?_)
      · refine qq_iinc (v := q9 + 1) (loc' := [(0, .ref 84), (1, .int how), (2, .int from9), (3, .int to9), (4, .int (q9 + 1))]) dX7_rises_103 4 rfl rfl [1, 2, 3, 4, 0] (Nat.le_of_ble_eq_true rfl) rfl ?_
        refine qq_goto (tgt := 73) dX7_rises_106 (by decide) ?_
        have ze : lf_X7_rises_73 how from9 to9 (fu + 1) q9 S = lf_X7_rises_73 how from9 to9 fu (q9 + 1) S := by
          rw [lf_X7_rises_73, if_neg zc1, if_pos zc2]
        rw [ze] at hk
        refine qq_less (bc' := 6 * fu + bc) (bs' := 66 * fu + bs) (by omega) (by omega) ?_
        exact lqih (q9 + 1) hp2 hS2 (rs_1 zw9 zr (by assumption)).2.2.2 (by have := rs_1 zw9 zr (by assumption); rw [Int32.le_iff_toInt_le] at *; omega) bc bs (fun e hq h1 h2 => hk.1 e hq h1 (fr_t (fr_t fr1 fr2) h2)) (fun e hq h1 h2 => hk.2 e hq h1 (fr_t (fr_t fr1 fr2) h2))
      · refine qq_iconst (v := 0) dX7_rises_101 (by decide) ?_
        have ze : lf_X7_rises_73 how from9 to9 (fu + 1) q9 S = 0 := by
          rw [lf_X7_rises_73, if_neg zc1, if_neg zc2]
        exact qq_iret dX7_rises_102 rfl rfl (hk.2 ze hp2 hS2 (fr_t fr1 fr2))
def r_X7_rises (how : Int32) (from9 : Int32) (to9 : Int32)  (S : sM) : Int32 × sM := if (f_X7_isIn how 0 3) = 0 then if ((r_X7_isArgument (0 : Int32) S).1) = 0 then (0, (r_X7_isArgument (0 : Int32) S).2) else (0, (r_X7_isArgument (0 : Int32) S).2) else if (f_X7_isIn how 0 3) = 0 then (0, S) else if (r_X7_isOf how from9 S) = 0 then if ((r_X7_isArgument (0 : Int32) S).1) = 0 then (0, (r_X7_isArgument (0 : Int32) S).2) else (0, (r_X7_isArgument (0 : Int32) S).2) else if (f_X7_isIn how 0 3) = 0 then (0, S) else if (r_X7_isOf how to9 S) = 0 then if ((r_X7_isArgument (0 : Int32) S).1) = 0 then (0, (r_X7_isArgument (0 : Int32) S).2) else (0, (r_X7_isArgument (0 : Int32) S).2) else if to9 < from9 then if ((r_X7_isArgument (0 : Int32) S).1) = 0 then (0, (r_X7_isArgument (0 : Int32) S).2) else (0, (r_X7_isArgument (0 : Int32) S).2) else if ((r_X7_isArgument (1 : Int32) S).1) = 0 then (0, (r_X7_isArgument (1 : Int32) S).2) else if lf_X7_rises_73 how from9 to9 322 from9 ((r_X7_isArgument (1 : Int32) S).2) = 1 then (1, (r_X7_isArgument (1 : Int32) S).2) else (0, (r_X7_isArgument (1 : Int32) S).2)
set_option maxRecDepth 4000 in
theorem mt_X7_rises (hp : qq_H) (A : qA) (S : sM) (hS : ms_M A S hp) (how : Int32) (from9 : Int32) (to9 : Int32)      : qq_Mt mX7_rises [.ref 84, .int how, .int from9, .int to9] hp 1932 21252 (fun v hp' => v = some (.int ((r_X7_rises how from9 to9 S).1)) ∧ ms_M A ((r_X7_rises how from9 to9 S).2) hp' ∧ fr A hp hp') (fun _ _ => False) := by
  refine qq_met pn_X7 (Nat.le_of_ble_eq_true rfl) (Nat.le_of_ble_eq_true rfl) kc_X7_rises ?_
  show qq_Go _ hp 1932 21252 0 [(0, .ref 84), (1, .int how), (2, .int from9), (3, .int to9)] [] _ _
  refine qq_aload_n dX7_rises_0 rfl 0 rfl ?_
  refine qq_iload_n dX7_rises_1 rfl 1 rfl ?_
  refine qq_iconst (v := 0) dX7_rises_2 (by decide) ?_
  refine qq_iconst (v := 3) dX7_rises_3 (by decide) ?_
  refine qq_less (bc' := 1932 + 0) (bs' := 21252 + 0) (by omega) (by omega) ?_
  refine qq_callS (bc := 1932) (bs := 21252) (mc := 0) (ms := 0) (as := [.int how, .int 0, .int 3]) (rest := [.ref 84]) dX7_rises_4 (mt_X7_isIn hp how (0 : Int32) (3 : Int32)) rfl kl_X7_113 ks_X7_isIn ki_X7 kc_X7_isIn kd_X7_isIn rfl (by decide) (by decide) (Nat.le_of_ble_eq_true rfl) (fun v hp' hv _ _ => ?_) (fun E hp' zx _ _ => zx.elim)
  obtain ⟨rfl, rfl⟩ := hv
  show qq_Go _ hp (1932) (21252) 7 [(0, .ref 84), (1, .int how), (2, .int from9), (3, .int to9)] [.int (f_X7_isIn how 0 3), .ref 84] _ _
  refine qq_if_eq (tgt := 61) dX7_rises_7 (by decide) (fun zc1 => ?_) (fun zc1 => ?_)
  · refine qq_iconst (v := 0) dX7_rises_61 (by decide) ?_
    refine qq_less (bc' := 1932 + 0) (bs' := 21252 + 0) (by omega) (by omega) ?_
    refine qq_callV (bc := 1932) (bs := 21252) (mc := 0) (ms := 0) (o := 84) (ci := 4) (N := 11) (T := TX7) (as := [.int 0]) (rest := []) dX7_rises_62 hS.2.2.1 (by decide) rfl (mt_X7_isArgument hp A S hS (0 : Int32) (Or.inl rfl)) rfl kl_X7_262 kn_X7_isArgument ke_X7_isArgument ki_X7 kc_X7_isArgument kd_X7_isArgument rfl (by decide) (by decide) (Nat.le_of_ble_eq_true rfl) (fun v hp1 hv _ _ => ?_) (fun E hp' zx _ _ => zx.elim)
    obtain ⟨rfl, hS1, fr1⟩ := hv
    show qq_Go _ hp1 (1932) (21252) 65 [(0, .ref 84), (1, .int how), (2, .int from9), (3, .int to9)] [.int ((r_X7_isArgument (0 : Int32) S).1)] _ _
    refine qq_if_ne (tgt := 70) dX7_rises_65 (by decide) (fun zc2 => ?_) (fun zc2 => ?_)
    · exact absurd qx_a0 zc2
    · refine qq_iconst (v := 0) dX7_rises_68 (by decide) ?_
      have ze : r_X7_rises how from9 to9 S = (0, (r_X7_isArgument (0 : Int32) S).2) := by
        rw [r_X7_rises, if_pos zc1, if_pos zc2]
      exact qq_iret dX7_rises_69 rfl rfl ⟨by rw [ze], by rw [ze]; first | exact ms_pr hS1 | exact hS1, fr1⟩
  · have zw1 := qx_in4 zc1
    refine qq_iload_n dX7_rises_10 rfl 1 rfl ?_
    refine qq_iconst (v := 0) dX7_rises_11 (by decide) ?_
    refine qq_iconst (v := 3) dX7_rises_12 (by decide) ?_
    refine qq_less (bc' := 1932 + 0) (bs' := 21252 + 0) (by omega) (by omega) ?_
    refine qq_callS (bc := 1932) (bs := 21252) (mc := 0) (ms := 0) (as := [.int how, .int 0, .int 3]) (rest := [.ref 84]) dX7_rises_13 (mt_X7_isIn hp how (0 : Int32) (3 : Int32)) rfl kl_X7_113 ks_X7_isIn ki_X7 kc_X7_isIn kd_X7_isIn rfl (by decide) (by decide) (Nat.le_of_ble_eq_true rfl) (fun v hp' hv _ _ => ?_) (fun E hp' zx _ _ => zx.elim)
    obtain ⟨rfl, rfl⟩ := hv
    show qq_Go _ hp (1932) (21252) 16 [(0, .ref 84), (1, .int how), (2, .int from9), (3, .int to9)] [.int (f_X7_isIn how 0 3), .ref 84] _ _
    refine qq_if_eq (tgt := 23) dX7_rises_16 (by decide) (fun zc3 => ?_) (fun zc3 => ?_)
    · exact absurd zc3 zc1
    · have zw2 := qx_in4 zc3
      refine qq_iload_n dX7_rises_19 rfl 1 rfl ?_
      refine qq_goto (tgt := 24) dX7_rises_20 (by decide) ?_
      refine qq_iload_n dX7_rises_24 rfl 2 rfl ?_
      refine qq_less (bc' := 1932 + 0) (bs' := 21252 + 0) (by omega) (by omega) ?_
      refine qq_callS (bc := 1932) (bs := 21252) (mc := 0) (ms := 0) (as := [.int how, .int from9]) (rest := [.ref 84]) dX7_rises_25 (mt_X7_isOf hp A S hS how from9 zw2) rfl kl_X7_259 ks_X7_isOf ki_X7 kc_X7_isOf kd_X7_isOf rfl (by decide) (by decide) (Nat.le_of_ble_eq_true rfl) (fun v hp' hv _ _ => ?_) (fun E hp' zx _ _ => zx.elim)
      obtain ⟨rfl, rfl⟩ := hv
      show qq_Go _ hp (1932) (21252) 28 [(0, .ref 84), (1, .int how), (2, .int from9), (3, .int to9)] [.int (r_X7_isOf how from9 S), .ref 84] _ _
      refine qq_if_eq (tgt := 61) dX7_rises_28 (by decide) (fun zc4 => ?_) (fun zc4 => ?_)
      · refine qq_iconst (v := 0) dX7_rises_61 (by decide) ?_
        refine qq_less (bc' := 1932 + 0) (bs' := 21252 + 0) (by omega) (by omega) ?_
        refine qq_callV (bc := 1932) (bs := 21252) (mc := 0) (ms := 0) (o := 84) (ci := 4) (N := 11) (T := TX7) (as := [.int 0]) (rest := []) dX7_rises_62 hS.2.2.1 (by decide) rfl (mt_X7_isArgument hp A S hS (0 : Int32) (Or.inl rfl)) rfl kl_X7_262 kn_X7_isArgument ke_X7_isArgument ki_X7 kc_X7_isArgument kd_X7_isArgument rfl (by decide) (by decide) (Nat.le_of_ble_eq_true rfl) (fun v hp2 hv _ _ => ?_) (fun E hp' zx _ _ => zx.elim)
        obtain ⟨rfl, hS2, fr2⟩ := hv
        show qq_Go _ hp2 (1932) (21252) 65 [(0, .ref 84), (1, .int how), (2, .int from9), (3, .int to9)] [.int ((r_X7_isArgument (0 : Int32) S).1)] _ _
        refine qq_if_ne (tgt := 70) dX7_rises_65 (by decide) (fun zc5 => ?_) (fun zc5 => ?_)
        · exact absurd qx_a0 zc5
        · refine qq_iconst (v := 0) dX7_rises_68 (by decide) ?_
          have ze : r_X7_rises how from9 to9 S = (0, (r_X7_isArgument (0 : Int32) S).2) := by
            rw [r_X7_rises, if_neg zc1, if_neg zc3, if_pos zc4, if_pos zc5]
          exact qq_iret dX7_rises_69 rfl rfl ⟨by rw [ze], by rw [ze]; first | exact ms_pr hS2 | exact hS2, fr2⟩
      · refine qq_iload_n dX7_rises_31 rfl 1 rfl ?_
        refine qq_iconst (v := 0) dX7_rises_32 (by decide) ?_
        refine qq_iconst (v := 3) dX7_rises_33 (by decide) ?_
        refine qq_less (bc' := 1932 + 0) (bs' := 21252 + 0) (by omega) (by omega) ?_
        refine qq_callS (bc := 1932) (bs := 21252) (mc := 0) (ms := 0) (as := [.int how, .int 0, .int 3]) (rest := [.ref 84]) dX7_rises_34 (mt_X7_isIn hp how (0 : Int32) (3 : Int32)) rfl kl_X7_113 ks_X7_isIn ki_X7 kc_X7_isIn kd_X7_isIn rfl (by decide) (by decide) (Nat.le_of_ble_eq_true rfl) (fun v hp' hv _ _ => ?_) (fun E hp' zx _ _ => zx.elim)
        obtain ⟨rfl, rfl⟩ := hv
        show qq_Go _ hp (1932) (21252) 37 [(0, .ref 84), (1, .int how), (2, .int from9), (3, .int to9)] [.int (f_X7_isIn how 0 3), .ref 84] _ _
        refine qq_if_eq (tgt := 44) dX7_rises_37 (by decide) (fun zc6 => ?_) (fun zc6 => ?_)
        · exact absurd zc6 zc3
        · have zw3 := qx_in4 zc6
          refine qq_iload_n dX7_rises_40 rfl 1 rfl ?_
          refine qq_goto (tgt := 45) dX7_rises_41 (by decide) ?_
          refine qq_iload_n dX7_rises_45 rfl 3 rfl ?_
          refine qq_less (bc' := 1932 + 0) (bs' := 21252 + 0) (by omega) (by omega) ?_
          refine qq_callS (bc := 1932) (bs := 21252) (mc := 0) (ms := 0) (as := [.int how, .int to9]) (rest := [.ref 84]) dX7_rises_46 (mt_X7_isOf hp A S hS how to9 zw3) rfl kl_X7_259 ks_X7_isOf ki_X7 kc_X7_isOf kd_X7_isOf rfl (by decide) (by decide) (Nat.le_of_ble_eq_true rfl) (fun v hp' hv _ _ => ?_) (fun E hp' zx _ _ => zx.elim)
          obtain ⟨rfl, rfl⟩ := hv
          show qq_Go _ hp (1932) (21252) 49 [(0, .ref 84), (1, .int how), (2, .int from9), (3, .int to9)] [.int (r_X7_isOf how to9 S), .ref 84] _ _
          refine qq_if_eq (tgt := 61) dX7_rises_49 (by decide) (fun zc7 => ?_) (fun zc7 => ?_)
          · refine qq_iconst (v := 0) dX7_rises_61 (by decide) ?_
            refine qq_less (bc' := 1932 + 0) (bs' := 21252 + 0) (by omega) (by omega) ?_
            refine qq_callV (bc := 1932) (bs := 21252) (mc := 0) (ms := 0) (o := 84) (ci := 4) (N := 11) (T := TX7) (as := [.int 0]) (rest := []) dX7_rises_62 hS.2.2.1 (by decide) rfl (mt_X7_isArgument hp A S hS (0 : Int32) (Or.inl rfl)) rfl kl_X7_262 kn_X7_isArgument ke_X7_isArgument ki_X7 kc_X7_isArgument kd_X7_isArgument rfl (by decide) (by decide) (Nat.le_of_ble_eq_true rfl) (fun v hp3 hv _ _ => ?_) (fun E hp' zx _ _ => zx.elim)
            obtain ⟨rfl, hS3, fr3⟩ := hv
            show qq_Go _ hp3 (1932) (21252) 65 [(0, .ref 84), (1, .int how), (2, .int from9), (3, .int to9)] [.int ((r_X7_isArgument (0 : Int32) S).1)] _ _
            refine qq_if_ne (tgt := 70) dX7_rises_65 (by decide) (fun zc8 => ?_) (fun zc8 => ?_)
            · exact absurd qx_a0 zc8
            · refine qq_iconst (v := 0) dX7_rises_68 (by decide) ?_
              have ze : r_X7_rises how from9 to9 S = (0, (r_X7_isArgument (0 : Int32) S).2) := by
                rw [r_X7_rises, if_neg zc1, if_neg zc3, if_neg zc4, if_neg zc6, if_pos zc7, if_pos zc8]
              exact qq_iret dX7_rises_69 rfl rfl ⟨by rw [ze], by rw [ze]; first | exact ms_pr hS3 | exact hS3, fr3⟩
          · refine qq_iload_n dX7_rises_52 rfl 2 rfl ?_
            refine qq_iload_n dX7_rises_53 rfl 3 rfl ?_
            refine qq_icmp_gt (tgt := 61) dX7_rises_54 (by decide) (fun zc9 => ?_) (fun zc9 => ?_)
            · refine qq_iconst (v := 0) dX7_rises_61 (by decide) ?_
              refine qq_less (bc' := 1932 + 0) (bs' := 21252 + 0) (by omega) (by omega) ?_
              refine qq_callV (bc := 1932) (bs := 21252) (mc := 0) (ms := 0) (o := 84) (ci := 4) (N := 11) (T := TX7) (as := [.int 0]) (rest := []) dX7_rises_62 hS.2.2.1 (by decide) rfl (mt_X7_isArgument hp A S hS (0 : Int32) (Or.inl rfl)) rfl kl_X7_262 kn_X7_isArgument ke_X7_isArgument ki_X7 kc_X7_isArgument kd_X7_isArgument rfl (by decide) (by decide) (Nat.le_of_ble_eq_true rfl) (fun v hp4 hv _ _ => ?_) (fun E hp' zx _ _ => zx.elim)
              obtain ⟨rfl, hS4, fr4⟩ := hv
              show qq_Go _ hp4 (1932) (21252) 65 [(0, .ref 84), (1, .int how), (2, .int from9), (3, .int to9)] [.int ((r_X7_isArgument (0 : Int32) S).1)] _ _
              refine qq_if_ne (tgt := 70) dX7_rises_65 (by decide) (fun zc10 => ?_) (fun zc10 => ?_)
              · exact absurd qx_a0 zc10
              · refine qq_iconst (v := 0) dX7_rises_68 (by decide) ?_
                have ze : r_X7_rises how from9 to9 S = (0, (r_X7_isArgument (0 : Int32) S).2) := by
                  rw [r_X7_rises, if_neg zc1, if_neg zc3, if_neg zc4, if_neg zc6, if_neg zc7, if_pos zc9, if_pos zc10]
                exact qq_iret dX7_rises_69 rfl rfl ⟨by rw [ze], by rw [ze]; first | exact ms_pr hS4 | exact hS4, fr4⟩
            · refine qq_iconst (v := 1) dX7_rises_57 (by decide) ?_
              refine qq_goto (tgt := 62) dX7_rises_58 (by decide) ?_
              refine qq_less (bc' := 1932 + 0) (bs' := 21252 + 0) (by omega) (by omega) ?_
              refine qq_callV (bc := 1932) (bs := 21252) (mc := 0) (ms := 0) (o := 84) (ci := 4) (N := 11) (T := TX7) (as := [.int 1]) (rest := []) dX7_rises_62 hS.2.2.1 (by decide) rfl (mt_X7_isArgument hp A S hS (1 : Int32) (Or.inr rfl)) rfl kl_X7_262 kn_X7_isArgument ke_X7_isArgument ki_X7 kc_X7_isArgument kd_X7_isArgument rfl (by decide) (by decide) (Nat.le_of_ble_eq_true rfl) (fun v hp5 hv _ _ => ?_) (fun E hp' zx _ _ => zx.elim)
              obtain ⟨rfl, hS5, fr5⟩ := hv
              show qq_Go _ hp5 (1932) (21252) 65 [(0, .ref 84), (1, .int how), (2, .int from9), (3, .int to9)] [.int ((r_X7_isArgument (1 : Int32) S).1)] _ _
              refine qq_if_ne (tgt := 70) dX7_rises_65 (by decide) (fun zc11 => ?_) (fun zc11 => ?_)
              · refine qq_iload_n dX7_rises_70 rfl 2 rfl ?_
                refine qq_istore (loc' := [(0, .ref 84), (1, .int how), (2, .int from9), (3, .int to9), (4, .int from9)]) dX7_rises_71 [1, 2, 3, 4, 0] (Nat.le_of_ble_eq_true rfl) rfl ?_
                refine qq_less (bc' := 0 + 1932) (bs' := 0 + 21252) (by omega) (by omega) ?_
                refine qq_less (bc' := 6 * 322 + (0)) (bs' := 66 * 322 + (0)) (by omega) (by omega) ?_
                refine lq_X7_rises_73 how from9 to9 A ((r_X7_isArgument (1 : Int32) S).2) zw3 322 from9 hp5 hS5 (rs_0 (by assumption) (by assumption)) (rs_f (by assumption) (rs_0 (by assumption) (by assumption))) (0) (0) (fun zl1 hp6 hS6 fr6 => ?_) (fun zl0 hp6 hS6 fr6 => ?_)
                · show qq_Go _ hp6 (0) (0) 109 [(0, .ref 84), (1, .int how), (2, .int from9), (3, .int to9)] [] _ _
                  refine qq_iconst (v := 1) dX7_rises_109 (by decide) ?_
                  have ze : r_X7_rises how from9 to9 S = (1, (r_X7_isArgument (1 : Int32) S).2) := by
                    rw [r_X7_rises, if_neg zc1, if_neg zc3, if_neg zc4, if_neg zc6, if_neg zc7, if_neg zc9, if_neg zc11, if_pos zl1]
                  exact qq_iret dX7_rises_110 rfl rfl ⟨by rw [ze], by rw [ze]; first | exact ms_pr hS6 | exact hS6, (fr_t fr5 fr6)⟩
                · have zl2 : ¬ lf_X7_rises_73 how from9 to9 322 from9 ((r_X7_isArgument (1 : Int32) S).2) = 1 := by rw [zl0]; decide
                  have ze : r_X7_rises how from9 to9 S = (0, (r_X7_isArgument (1 : Int32) S).2) := by
                    rw [r_X7_rises, if_neg zc1, if_neg zc3, if_neg zc4, if_neg zc6, if_neg zc7, if_neg zc9, if_neg zc11, if_neg zl2]
                  exact ⟨by rw [ze], by rw [ze]; exact hS6, (fr_t fr5 fr6)⟩
              · exact absurd zc11 qx_a1