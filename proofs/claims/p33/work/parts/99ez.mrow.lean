def r_X7_trueOf (kd : Int32) (q9 : Int32)  (S : sM) : qR := if kd = 2 then (PW (q9 + 160).toNatClampNeg) else if kd = 3 then r_X7_sum (1 : Int32) (PW (q9 + 160).toNatClampNeg) (PW (160 : Int32).toNatClampNeg) else if kd = 4 then if q9 = 0 then r_X7_quarterOf (0 : Int32) else r_X7_logOf q9 S else r_X7_quarterOf q9
set_option maxRecDepth 4000 in
theorem mt_X7_trueOf (hp : qq_H) (A : qA) (S : sM) (hS : ms_M A S hp) (kd : Int32) (q9 : Int32)     (zt : tpre kd q9) : qq_Mt mX7_trueOf [.ref 84, .int kd, .int q9] hp 3 33 (fun v hp' => ∃ r : Nat, v = some (.ref r) ∧ ms_M A S hp' ∧ fr A hp hp' ∧ hp'.2 r = c_row (r_X7_trueOf kd q9 S) ∧ r < hp'.1) (fun _ _ => False) := by
  refine qq_met pn_X7 (Nat.le_of_ble_eq_true rfl) (Nat.le_of_ble_eq_true rfl) kc_X7_trueOf ?_
  show qq_Go _ hp 3 33 0 [(0, .ref 84), (1, .int kd), (2, .int q9)] [] _ _
  refine qq_iload_n dX7_trueOf_0 rfl 1 rfl ?_
  by_cases zc1 : kd = 2
  · refine qq_tabIn (off := 27) (tgt := 28) dX7_trueOf_1 (by rw [zc1]; decide) (by rw [zc1]; decide) (by rw [zc1]; decide) (by decide) ?_
    refine qq_aload_n dX7_trueOf_28 rfl 0 rfl ?_
    refine mx_get hS dX7_trueOf_29 0 (by decide) rfl kl_X7_11 ?_
    refine qq_iload_n dX7_trueOf_32 rfl 2 rfl ?_
    refine qq_sipush (v := 160) dX7_trueOf_33 (by decide) ?_
    refine qq_iadd dX7_trueOf_36 ?_
    refine mx_pw hS dX7_trueOf_37 (tp_2 zt (by assumption)) ?_
    obtain ⟨hr_1, hl_1⟩ := pw_row hS (vp_lt (tp_2 zt (by assumption)))
    show qq_Go _ hp (3) (33) 38 [(0, .ref 84), (1, .int kd), (2, .int q9)] [.ref (pr (q9 + 160).toNatClampNeg)] _ _
    have ze : r_X7_trueOf kd q9 S = (PW (q9 + 160).toNatClampNeg) := by
      rw [r_X7_trueOf, if_pos zc1]
    exact qq_aret dX7_trueOf_38 rfl (Or.inr ⟨_, rfl⟩) (Or.inr ⟨_, rfl⟩) ⟨_, rfl, hS, (fr_r _ _), by rw [ze]; exact hr_1, hl_1⟩
  · by_cases zc2 : kd = 3
    · refine qq_tabIn (off := 38) (tgt := 39) dX7_trueOf_1 (by rw [zc2]; decide) (by rw [zc2]; decide) (by rw [zc2]; decide) (by decide) ?_
      refine qq_aload_n dX7_trueOf_39 rfl 0 rfl ?_
      refine mx_get hS dX7_trueOf_40 0 (by decide) rfl kl_X7_11 ?_
      refine qq_iload_n dX7_trueOf_43 rfl 2 rfl ?_
      refine qq_sipush (v := 160) dX7_trueOf_44 (by decide) ?_
      refine qq_iadd dX7_trueOf_47 ?_
      refine mx_pw hS dX7_trueOf_48 (tp_3 zt (by assumption)) ?_
      obtain ⟨hr_2, hl_2⟩ := pw_row hS (vp_lt (tp_3 zt (by assumption)))
      show qq_Go _ hp (3) (33) 49 [(0, .ref 84), (1, .int kd), (2, .int q9)] [.ref (pr (q9 + 160).toNatClampNeg)] _ _
      refine qq_aload_n dX7_trueOf_49 rfl 0 rfl ?_
      refine mx_get hS dX7_trueOf_50 0 (by decide) rfl kl_X7_11 ?_
      refine qq_sipush (v := 160) dX7_trueOf_53 (by decide) ?_
      refine mx_pw hS dX7_trueOf_56 (vp_d (by decide)) ?_
      obtain ⟨hr_3, hl_3⟩ := pw_row hS (vp_lt (show vp_in (160 : Int32) 321 from vp_d (by decide)))
      show qq_Go _ hp (3) (33) 57 [(0, .ref 84), (1, .int kd), (2, .int q9)] [.ref (pr (160 : Int32).toNatClampNeg), .ref (pr (q9 + 160).toNatClampNeg)] _ _
      refine qq_iconst (v := 1) dX7_trueOf_57 (by decide) ?_
      refine qq_less (bc' := 2 + 1) (bs' := 22 + 11) (by omega) (by omega) ?_
      refine qq_callS (bc := 2) (bs := 22) (mc := 1) (ms := 11) (as := [.ref (pr (q9 + 160).toNatClampNeg), .ref (pr (160 : Int32).toNatClampNeg), .int 1]) (rest := []) dX7_trueOf_58 (mt_X7_sum hp (1 : Int32) (pr (q9 + 160).toNatClampNeg) (pr (160 : Int32).toNatClampNeg) (PW (q9 + 160).toNatClampNeg) (PW (160 : Int32).toNatClampNeg) hr_2 hr_3 hl_2 hl_3 (ms_80 hS) ) rfl kl_X7_81 ks_X7_sum ki_X7 kc_X7_sum kd_X7_sum rfl (by decide) (by decide) (Nat.le_of_ble_eq_true rfl) (fun v hp1 hv _ _ => ?_) (fun E hp' zx _ _ => zx.elim)
      obtain ⟨rfl, hv⟩ := hv
      obtain ⟨hS1, fr1, hr_n1, hl_n1⟩ := ms_n hS hv
      show qq_Go _ hp1 (2) (22) 61 [(0, .ref 84), (1, .int kd), (2, .int q9)] [.ref hp.1] _ _
      have ze : r_X7_trueOf kd q9 S = r_X7_sum (1 : Int32) (PW (q9 + 160).toNatClampNeg) (PW (160 : Int32).toNatClampNeg) := by
        rw [r_X7_trueOf, if_neg zc1, if_pos zc2]
      exact qq_aret dX7_trueOf_61 rfl (Or.inr ⟨_, rfl⟩) (Or.inr ⟨_, rfl⟩) ⟨_, rfl, hS1, fr1, by rw [ze]; exact hr_n1, hl_n1⟩
    · by_cases zc3 : kd = 4
      · refine qq_tabIn (off := 61) (tgt := 62) dX7_trueOf_1 (by rw [zc3]; decide) (by rw [zc3]; decide) (by rw [zc3]; decide) (by decide) ?_
        refine qq_iload_n dX7_trueOf_62 rfl 2 rfl ?_
        refine qq_if_ne (tgt := 73) dX7_trueOf_63 (by decide) (fun zc4 => ?_) (fun zc4 => ?_)
        · refine qq_aload_n dX7_trueOf_73 rfl 0 rfl ?_
          refine qq_iload_n dX7_trueOf_74 rfl 2 rfl ?_
          refine qq_less (bc' := 0 + 3) (bs' := 0 + 33) (by omega) (by omega) ?_
          refine qq_callV (bc := 0) (bs := 0) (mc := 3) (ms := 33) (o := 84) (ci := 4) (N := 11) (T := TX7) (as := [.int q9]) (rest := []) dX7_trueOf_75 hS.2.2.1 (by decide) rfl (mt_X7_logOf hp A S hS q9 (tp_4 zt (by assumption))) rfl kl_X7_85 kn_X7_logOf ke_X7_logOf ki_X7 kc_X7_logOf kd_X7_logOf rfl (by decide) (by decide) (Nat.le_of_ble_eq_true rfl) (fun v hp2 hv _ _ => ?_) (fun E hp' zx _ _ => zx.elim)
          obtain ⟨rj2, rfl, hS2, fr2, hr_n2, hl_n2⟩ := hv
          show qq_Go _ hp2 (0) (0) 78 [(0, .ref 84), (1, .int kd), (2, .int q9)] [.ref rj2] _ _
          have ze : r_X7_trueOf kd q9 S = r_X7_logOf q9 S := by
            rw [r_X7_trueOf, if_neg zc1, if_neg zc2, if_pos zc3, if_neg zc4]
          exact qq_aret dX7_trueOf_78 rfl (Or.inr ⟨_, rfl⟩) (Or.inr ⟨_, rfl⟩) ⟨_, rfl, hS2, fr2, by rw [ze]; exact hr_n2, hl_n2⟩
        · refine qq_iconst (v := 0) dX7_trueOf_66 (by decide) ?_
          refine qq_less (bc' := 2 + 1) (bs' := 22 + 11) (by omega) (by omega) ?_
          refine qq_callS (bc := 2) (bs := 22) (mc := 1) (ms := 11) (as := [.int 0]) (rest := []) dX7_trueOf_67 (mt_X7_quarterOf hp (0 : Int32) (ms_80 hS) ) rfl kl_X7_38 ks_X7_quarterOf ki_X7 kc_X7_quarterOf kd_X7_quarterOf rfl (by decide) (by decide) (Nat.le_of_ble_eq_true rfl) (fun v hp3 hv _ _ => ?_) (fun E hp' zx _ _ => zx.elim)
          obtain ⟨rfl, hv⟩ := hv
          obtain ⟨hS3, fr3, hr_n3, hl_n3⟩ := ms_n hS hv
          show qq_Go _ hp3 (2) (22) 70 [(0, .ref 84), (1, .int kd), (2, .int q9)] [.ref hp.1] _ _
          refine qq_goto (tgt := 78) dX7_trueOf_70 (by decide) ?_
          have ze : r_X7_trueOf kd q9 S = r_X7_quarterOf (0 : Int32) := by
            rw [r_X7_trueOf, if_neg zc1, if_neg zc2, if_pos zc3, if_pos zc4]
          exact qq_aret dX7_trueOf_78 rfl (Or.inr ⟨_, rfl⟩) (Or.inr ⟨_, rfl⟩) ⟨_, rfl, hS3, fr3, by rw [ze]; exact hr_n3, hl_n3⟩
      · refine qq_tabOut (tgt := 79) dX7_trueOf_1 (by have g0 : ¬ kd.toInt = 2 := qm_toInt_ne zc1; have g1 : ¬ kd.toInt = 3 := qm_toInt_ne zc2; have g2 : ¬ kd.toInt = 4 := qm_toInt_ne zc3; omega) (by decide) ?_
        refine qq_iload_n dX7_trueOf_79 rfl 2 rfl ?_
        refine qq_less (bc' := 2 + 1) (bs' := 22 + 11) (by omega) (by omega) ?_
        refine qq_callS (bc := 2) (bs := 22) (mc := 1) (ms := 11) (as := [.int q9]) (rest := []) dX7_trueOf_80 (mt_X7_quarterOf hp q9 (ms_80 hS) ) rfl kl_X7_38 ks_X7_quarterOf ki_X7 kc_X7_quarterOf kd_X7_quarterOf rfl (by decide) (by decide) (Nat.le_of_ble_eq_true rfl) (fun v hp4 hv _ _ => ?_) (fun E hp' zx _ _ => zx.elim)
        obtain ⟨rfl, hv⟩ := hv
        obtain ⟨hS4, fr4, hr_n4, hl_n4⟩ := ms_n hS hv
        show qq_Go _ hp4 (2) (22) 83 [(0, .ref 84), (1, .int kd), (2, .int q9)] [.ref hp.1] _ _
        have ze : r_X7_trueOf kd q9 S = r_X7_quarterOf q9 := by
          rw [r_X7_trueOf, if_neg zc1, if_neg zc2, if_neg zc3]
        exact qq_aret dX7_trueOf_83 rfl (Or.inr ⟨_, rfl⟩) (Or.inr ⟨_, rfl⟩) ⟨_, rfl, hS4, fr4, by rw [ze]; exact hr_n4, hl_n4⟩
def r_X7_trueIn (how : Int32) (q9 : Int32)  (S : sM) : qR := if how = 0 then r_X7_trueOf (0 : Int32) q9 S else r_X7_trueOf (how + 1) q9 S
set_option maxRecDepth 4000 in
theorem mt_X7_trueIn (hp : qq_H) (A : qA) (S : sM) (hS : ms_M A S hp) (how : Int32) (q9 : Int32)     (zq : tq how q9) : qq_Mt mX7_trueIn [.ref 84, .int how, .int q9] hp 3 33 (fun v hp' => ∃ r : Nat, v = some (.ref r) ∧ ms_M A S hp' ∧ fr A hp hp' ∧ hp'.2 r = c_row (r_X7_trueIn how q9 S) ∧ r < hp'.1) (fun _ _ => False) := by
  refine qq_met pn_X7 (Nat.le_of_ble_eq_true rfl) (Nat.le_of_ble_eq_true rfl) kc_X7_trueIn ?_
  show qq_Go _ hp 3 33 0 [(0, .ref 84), (1, .int how), (2, .int q9)] [] _ _
  refine qq_aload_n dX7_trueIn_0 rfl 0 rfl ?_
  refine qq_iload_n dX7_trueIn_1 rfl 1 rfl ?_
  refine qq_if_ne (tgt := 9) dX7_trueIn_2 (by decide) (fun zc1 => ?_) (fun zc1 => ?_)
  · refine qq_iload_n dX7_trueIn_9 rfl 1 rfl ?_
    refine qq_iconst (v := 1) dX7_trueIn_10 (by decide) ?_
    refine qq_iadd dX7_trueIn_11 ?_
    refine qq_iload_n dX7_trueIn_12 rfl 2 rfl ?_
    refine qq_less (bc' := 0 + 3) (bs' := 0 + 33) (by omega) (by omega) ?_
    refine qq_callV (bc := 0) (bs := 0) (mc := 3) (ms := 33) (o := 84) (ci := 4) (N := 11) (T := TX7) (as := [.int (how + 1), .int q9]) (rest := []) dX7_trueIn_13 hS.2.2.1 (by decide) rfl (mt_X7_trueOf hp A S hS (how + 1) q9 (by first | exact tq_0 zq (by assumption) | exact tq_1 zq (by assumption))) rfl kl_X7_88 kn_X7_trueOf ke_X7_trueOf ki_X7 kc_X7_trueOf kd_X7_trueOf rfl (by decide) (by decide) (Nat.le_of_ble_eq_true rfl) (fun v hp1 hv _ _ => ?_) (fun E hp' zx _ _ => zx.elim)
    obtain ⟨rj1, rfl, hS1, fr1, hr_n1, hl_n1⟩ := hv
    show qq_Go _ hp1 (0) (0) 16 [(0, .ref 84), (1, .int how), (2, .int q9)] [.ref rj1] _ _
    have ze : r_X7_trueIn how q9 S = r_X7_trueOf (how + 1) q9 S := by
      rw [r_X7_trueIn, if_neg zc1]
    exact qq_aret dX7_trueIn_16 rfl (Or.inr ⟨_, rfl⟩) (Or.inr ⟨_, rfl⟩) ⟨_, rfl, hS1, fr1, by rw [ze]; exact hr_n1, hl_n1⟩
  · refine qq_iconst (v := 0) dX7_trueIn_5 (by decide) ?_
    refine qq_goto (tgt := 12) dX7_trueIn_6 (by decide) ?_
    refine qq_iload_n dX7_trueIn_12 rfl 2 rfl ?_
    refine qq_less (bc' := 0 + 3) (bs' := 0 + 33) (by omega) (by omega) ?_
    refine qq_callV (bc := 0) (bs := 0) (mc := 3) (ms := 33) (o := 84) (ci := 4) (N := 11) (T := TX7) (as := [.int 0, .int q9]) (rest := []) dX7_trueIn_13 hS.2.2.1 (by decide) rfl (mt_X7_trueOf hp A S hS (0 : Int32) q9 (by first | exact tq_0 zq (by assumption) | exact tq_1 zq (by assumption))) rfl kl_X7_88 kn_X7_trueOf ke_X7_trueOf ki_X7 kc_X7_trueOf kd_X7_trueOf rfl (by decide) (by decide) (Nat.le_of_ble_eq_true rfl) (fun v hp2 hv _ _ => ?_) (fun E hp' zx _ _ => zx.elim)
    obtain ⟨rj2, rfl, hS2, fr2, hr_n2, hl_n2⟩ := hv
    show qq_Go _ hp2 (0) (0) 16 [(0, .ref 84), (1, .int how), (2, .int q9)] [.ref rj2] _ _
    have ze : r_X7_trueIn how q9 S = r_X7_trueOf (0 : Int32) q9 S := by
      rw [r_X7_trueIn, if_pos zc1]
    exact qq_aret dX7_trueIn_16 rfl (Or.inr ⟨_, rfl⟩) (Or.inr ⟨_, rfl⟩) ⟨_, rfl, hS2, fr2, by rw [ze]; exact hr_n2, hl_n2⟩
def r_X7_orderOf (a : Int32) (b : Int32)  (S : sM) : Int32 := if (S.1 a.toNatClampNeg) = 1 then if (S.2.2.1 a.toNatClampNeg) = 0 then if (S.1 b.toNatClampNeg) = 1 then if (S.2.2.1 b.toNatClampNeg) = 0 then f_J6_compare_7cf53 1 1 else f_J6_compare_7cf53 1 (-1) else f_J6_compare_7cf53 1 0 else if (S.1 b.toNatClampNeg) = 1 then if (S.2.2.1 b.toNatClampNeg) = 0 then f_J6_compare_7cf53 (-1) 1 else f_J6_compare_7cf53 (-1) (-1) else f_J6_compare_7cf53 (-1) 0 else if (S.1 b.toNatClampNeg) = 1 then if (S.2.2.1 b.toNatClampNeg) = 0 then f_J6_compare_7cf53 0 1 else f_J6_compare_7cf53 0 (-1) else if (r_X7_compare (r_X7_trueOf (S.1 a.toNatClampNeg) (S.2.1 a.toNatClampNeg) S) (r_X7_trueOf (S.1 b.toNatClampNeg) (S.2.1 b.toNatClampNeg) S)) = 0 then if (r_X7_isNought a S) = 0 then r_X7_compare (r_X7_trueOf (S.1 a.toNatClampNeg) (S.2.1 a.toNatClampNeg) S) (r_X7_trueOf (S.1 b.toNatClampNeg) (S.2.1 b.toNatClampNeg) S) else if (r_X7_isNought b S) = 0 then r_X7_compare (r_X7_trueOf (S.1 a.toNatClampNeg) (S.2.1 a.toNatClampNeg) S) (r_X7_trueOf (S.1 b.toNatClampNeg) (S.2.1 b.toNatClampNeg) S) else if (S.2.2.1 a.toNatClampNeg) = (S.2.2.1 b.toNatClampNeg) then r_X7_compare (r_X7_trueOf (S.1 a.toNatClampNeg) (S.2.1 a.toNatClampNeg) S) (r_X7_trueOf (S.1 b.toNatClampNeg) (S.2.1 b.toNatClampNeg) S) else if (S.2.2.1 a.toNatClampNeg) = 0 then 1 else (-1) else r_X7_compare (r_X7_trueOf (S.1 a.toNatClampNeg) (S.2.1 a.toNatClampNeg) S) (r_X7_trueOf (S.1 b.toNatClampNeg) (S.2.1 b.toNatClampNeg) S)
set_option maxRecDepth 4000 in
theorem mt_X7_orderOf (hp : qq_H) (A : qA) (S : sM) (hS : ms_M A S hp) (a : Int32) (b : Int32)     (za : vp_in a 8) (zb : vp_in b 8) (zI : IM S) : qq_Mt mX7_orderOf [.ref 84, .int a, .int b] hp 6 66 (fun v hp' => v = some (.int (r_X7_orderOf a b S)) ∧ ms_M A S hp' ∧ fr A hp hp') (fun _ _ => False) := by
  refine qq_met pn_X7 (Nat.le_of_ble_eq_true rfl) (Nat.le_of_ble_eq_true rfl) kc_X7_orderOf ?_
  show qq_Go _ hp 6 66 0 [(0, .ref 84), (1, .int a), (2, .int b)] [] _ _
  refine qq_aload_n dX7_orderOf_0 rfl 0 rfl ?_
  refine mx_get hS dX7_orderOf_1 4 (by decide) rfl kl_X7_28 ?_
  refine qq_iload_n dX7_orderOf_4 rfl 1 rfl ?_
  refine qq_iald dX7_orderOf_5 hS.2.2.2.1 za ?_
  refine qq_iconst (v := 1) dX7_orderOf_6 (by decide) ?_
  refine qq_icmp_ne (tgt := 27) dX7_orderOf_7 (by decide) (fun zc1 => ?_) (fun zc1 => ?_)
  · refine qq_iconst (v := 0) dX7_orderOf_27 (by decide) ?_
    refine qq_istore_n (loc' := [(0, .ref 84), (1, .int a), (2, .int b), (3, .int 0)]) dX7_orderOf_28 rfl [1, 2, 3, 0] (Nat.le_of_ble_eq_true rfl) rfl ?_
    refine qq_aload_n dX7_orderOf_29 rfl 0 rfl ?_
    refine mx_get hS dX7_orderOf_30 4 (by decide) rfl kl_X7_28 ?_
    refine qq_iload_n dX7_orderOf_33 rfl 2 rfl ?_
    refine qq_iald dX7_orderOf_34 hS.2.2.2.1 zb ?_
    refine qq_iconst (v := 1) dX7_orderOf_35 (by decide) ?_
    refine qq_icmp_ne (tgt := 56) dX7_orderOf_36 (by decide) (fun zc2 => ?_) (fun zc2 => ?_)
    · refine qq_iconst (v := 0) dX7_orderOf_56 (by decide) ?_
      refine qq_istore (loc' := [(0, .ref 84), (1, .int a), (2, .int b), (3, .int 0), (4, .int 0)]) dX7_orderOf_57 [1, 2, 3, 4, 0] (Nat.le_of_ble_eq_true rfl) rfl ?_
      refine qq_iload_n dX7_orderOf_59 rfl 3 rfl ?_
      refine qq_if_ne (tgt := 68) dX7_orderOf_60 (by decide) (fun z => absurd z (by decide)) (fun _ => ?_)
      refine qq_iload dX7_orderOf_63 4 rfl ?_
      refine qq_if_eq (tgt := 75) dX7_orderOf_65 (by decide) (fun _ => ?_) (fun z => absurd (by decide) z)
      refine qq_aload_n dX7_orderOf_75 rfl 0 rfl ?_
      refine qq_aload_n dX7_orderOf_76 rfl 0 rfl ?_
      refine mx_get hS dX7_orderOf_77 4 (by decide) rfl kl_X7_28 ?_
      refine qq_iload_n dX7_orderOf_80 rfl 1 rfl ?_
      refine qq_iald dX7_orderOf_81 hS.2.2.2.1 za ?_
      refine qq_aload_n dX7_orderOf_82 rfl 0 rfl ?_
      refine mx_get hS dX7_orderOf_83 5 (by decide) rfl kl_X7_31 ?_
      refine qq_iload_n dX7_orderOf_86 rfl 1 rfl ?_
      refine qq_iald dX7_orderOf_87 hS.2.2.2.2.1 za ?_
      refine qq_less (bc' := 3 + 3) (bs' := 33 + 33) (by omega) (by omega) ?_
      refine qq_callV (bc := 3) (bs := 33) (mc := 3) (ms := 33) (o := 84) (ci := 4) (N := 11) (T := TX7) (as := [.int (S.1 a.toNatClampNeg), .int (S.2.1 a.toNatClampNeg)]) (rest := []) dX7_orderOf_88 hS.2.2.1 (by decide) rfl (mt_X7_trueOf hp A S hS (S.1 a.toNatClampNeg) (S.2.1 a.toNatClampNeg) (im_t zI za)) rfl kl_X7_88 kn_X7_trueOf ke_X7_trueOf ki_X7 kc_X7_trueOf kd_X7_trueOf rfl (by decide) (by decide) (Nat.le_of_ble_eq_true rfl) (fun v hp1 hv _ _ => ?_) (fun E hp' zx _ _ => zx.elim)
      obtain ⟨rj1, rfl, hS1, fr1, hr_n1, hl_n1⟩ := hv
      show qq_Go _ hp1 (3) (33) 91 [(0, .ref 84), (1, .int a), (2, .int b), (3, .int 0), (4, .int 0)] [.ref rj1] _ _
      refine qq_aload_n dX7_orderOf_91 rfl 0 rfl ?_
      refine qq_aload_n dX7_orderOf_92 rfl 0 rfl ?_
      refine mx_get hS1 dX7_orderOf_93 4 (by decide) rfl kl_X7_28 ?_
      refine qq_iload_n dX7_orderOf_96 rfl 2 rfl ?_
      refine qq_iald dX7_orderOf_97 hS1.2.2.2.1 zb ?_
      refine qq_aload_n dX7_orderOf_98 rfl 0 rfl ?_
      refine mx_get hS1 dX7_orderOf_99 5 (by decide) rfl kl_X7_31 ?_
      refine qq_iload_n dX7_orderOf_102 rfl 2 rfl ?_
      refine qq_iald dX7_orderOf_103 hS1.2.2.2.2.1 zb ?_
      refine qq_less (bc' := 0 + 3) (bs' := 0 + 33) (by omega) (by omega) ?_
      refine qq_callV (bc := 0) (bs := 0) (mc := 3) (ms := 33) (o := 84) (ci := 4) (N := 11) (T := TX7) (as := [.int (S.1 b.toNatClampNeg), .int (S.2.1 b.toNatClampNeg)]) (rest := [.ref rj1]) dX7_orderOf_104 hS1.2.2.1 (by decide) rfl (mt_X7_trueOf hp1 A S hS1 (S.1 b.toNatClampNeg) (S.2.1 b.toNatClampNeg) (im_t zI zb)) rfl kl_X7_88 kn_X7_trueOf ke_X7_trueOf ki_X7 kc_X7_trueOf kd_X7_trueOf rfl (by decide) (by decide) (Nat.le_of_ble_eq_true rfl) (fun v hp2 hv _ _ => ?_) (fun E hp' zx _ _ => zx.elim)
      obtain ⟨rj2, rfl, hS2, fr2, hr_n2, hl_n2⟩ := hv
      have hr_1 := fr_w fr2 hS1 hl_n1 hr_n1 (by decide)
      have hl_1 := fr_l fr2 hl_n1
      show qq_Go _ hp2 (0) (0) 107 [(0, .ref 84), (1, .int a), (2, .int b), (3, .int 0), (4, .int 0)] [.ref rj2, .ref rj1] _ _
      refine qq_less (bc' := 0 + 0) (bs' := 0 + 0) (by omega) (by omega) ?_
      refine qq_callS (bc := 0) (bs := 0) (mc := 0) (ms := 0) (as := [.ref rj1, .ref rj2]) (rest := []) dX7_orderOf_107 (mt_X7_compare hp2 rj1 rj2 (r_X7_trueOf (S.1 a.toNatClampNeg) (S.2.1 a.toNatClampNeg) S) (r_X7_trueOf (S.1 b.toNatClampNeg) (S.2.1 b.toNatClampNeg) S) hr_1 hr_n2 ) rfl kl_X7_106 ks_X7_compare ki_X7 kc_X7_compare kd_X7_compare rfl (by decide) (by decide) (Nat.le_of_ble_eq_true rfl) (fun v hp' hv _ _ => ?_) (fun E hp' zx _ _ => zx.elim)
      obtain ⟨rfl, rfl⟩ := hv
      show qq_Go _ hp2 (0) (0) 110 [(0, .ref 84), (1, .int a), (2, .int b), (3, .int 0), (4, .int 0)] [.int (r_X7_compare (r_X7_trueOf (S.1 a.toNatClampNeg) (S.2.1 a.toNatClampNeg) S) (r_X7_trueOf (S.1 b.toNatClampNeg) (S.2.1 b.toNatClampNeg) S))] _ _
      refine qq_istore (loc' := [(0, .ref 84), (1, .int a), (2, .int b), (3, .int 0), (4, .int 0), (5, .int (r_X7_compare (r_X7_trueOf (S.1 a.toNatClampNeg) (S.2.1 a.toNatClampNeg) S) (r_X7_trueOf (S.1 b.toNatClampNeg) (S.2.1 b.toNatClampNeg) S)))]) dX7_orderOf_110 [1, 2, 3, 4, 5, 0] (Nat.le_of_ble_eq_true rfl) rfl ?_
      refine qq_iload dX7_orderOf_112 5 rfl ?_
      refine qq_if_ne (tgt := 148) dX7_orderOf_114 (by decide) (fun zc3 => ?_) (fun zc3 => ?_)
      · refine qq_iload dX7_orderOf_148 5 rfl ?_
        have ze : r_X7_orderOf a b S = r_X7_compare (r_X7_trueOf (S.1 a.toNatClampNeg) (S.2.1 a.toNatClampNeg) S) (r_X7_trueOf (S.1 b.toNatClampNeg) (S.2.1 b.toNatClampNeg) S) := by
          rw [r_X7_orderOf, if_neg zc1, if_neg zc2, if_neg zc3]
        exact qq_iret dX7_orderOf_150 rfl rfl ⟨by rw [ze], hS2, (fr_t fr1 fr2)⟩
      · refine qq_aload_n dX7_orderOf_117 rfl 0 rfl ?_
        refine qq_iload_n dX7_orderOf_118 rfl 1 rfl ?_
        refine qq_less (bc' := 0 + 0) (bs' := 0 + 0) (by omega) (by omega) ?_
        refine qq_callV (bc := 0) (bs := 0) (mc := 0) (ms := 0) (o := 84) (ci := 4) (N := 11) (T := TX7) (as := [.int a]) (rest := []) dX7_orderOf_119 hS2.2.2.1 (by decide) rfl (mt_X7_isNought hp2 A S hS2 a za) rfl kl_X7_109 kn_X7_isNought ke_X7_isNought ki_X7 kc_X7_isNought kd_X7_isNought rfl (by decide) (by decide) (Nat.le_of_ble_eq_true rfl) (fun v hp' hv _ _ => ?_) (fun E hp' zx _ _ => zx.elim)
        obtain ⟨rfl, rfl⟩ := hv
        show qq_Go _ hp2 (0) (0) 122 [(0, .ref 84), (1, .int a), (2, .int b), (3, .int 0), (4, .int 0), (5, .int (r_X7_compare (r_X7_trueOf (S.1 a.toNatClampNeg) (S.2.1 a.toNatClampNeg) S) (r_X7_trueOf (S.1 b.toNatClampNeg) (S.2.1 b.toNatClampNeg) S)))] [.int (r_X7_isNought a S)] _ _
        refine qq_if_eq (tgt := 148) dX7_orderOf_122 (by decide) (fun zc4 => ?_) (fun zc4 => ?_)
        · refine qq_iload dX7_orderOf_148 5 rfl ?_
          have ze : r_X7_orderOf a b S = r_X7_compare (r_X7_trueOf (S.1 a.toNatClampNeg) (S.2.1 a.toNatClampNeg) S) (r_X7_trueOf (S.1 b.toNatClampNeg) (S.2.1 b.toNatClampNeg) S) := by
            rw [r_X7_orderOf, if_neg zc1, if_neg zc2, if_pos zc3, if_pos zc4]
          exact qq_iret dX7_orderOf_150 rfl rfl ⟨by rw [ze], hS2, (fr_t fr1 fr2)⟩
        · refine qq_aload_n dX7_orderOf_125 rfl 0 rfl ?_
          refine qq_iload_n dX7_orderOf_126 rfl 2 rfl ?_
          refine qq_less (bc' := 0 + 0) (bs' := 0 + 0) (by omega) (by omega) ?_
          refine qq_callV (bc := 0) (bs := 0) (mc := 0) (ms := 0) (o := 84) (ci := 4) (N := 11) (T := TX7) (as := [.int b]) (rest := []) dX7_orderOf_127 hS2.2.2.1 (by decide) rfl (mt_X7_isNought hp2 A S hS2 b zb) rfl kl_X7_109 kn_X7_isNought ke_X7_isNought ki_X7 kc_X7_isNought kd_X7_isNought rfl (by decide) (by decide) (Nat.le_of_ble_eq_true rfl) (fun v hp' hv _ _ => ?_) (fun E hp' zx _ _ => zx.elim)
          obtain ⟨rfl, rfl⟩ := hv
          show qq_Go _ hp2 (0) (0) 130 [(0, .ref 84), (1, .int a), (2, .int b), (3, .int 0), (4, .int 0), (5, .int (r_X7_compare (r_X7_trueOf (S.1 a.toNatClampNeg) (S.2.1 a.toNatClampNeg) S) (r_X7_trueOf (S.1 b.toNatClampNeg) (S.2.1 b.toNatClampNeg) S)))] [.int (r_X7_isNought b S)] _ _
          refine qq_if_eq (tgt := 148) dX7_orderOf_130 (by decide) (fun zc5 => ?_) (fun zc5 => ?_)
          · refine qq_iload dX7_orderOf_148 5 rfl ?_
            have ze : r_X7_orderOf a b S = r_X7_compare (r_X7_trueOf (S.1 a.toNatClampNeg) (S.2.1 a.toNatClampNeg) S) (r_X7_trueOf (S.1 b.toNatClampNeg) (S.2.1 b.toNatClampNeg) S) := by
              rw [r_X7_orderOf, if_neg zc1, if_neg zc2, if_pos zc3, if_neg zc4, if_pos zc5]
            exact qq_iret dX7_orderOf_150 rfl rfl ⟨by rw [ze], hS2, (fr_t fr1 fr2)⟩
          · refine qq_aload_n dX7_orderOf_133 rfl 0 rfl ?_
            refine mx_get hS2 dX7_orderOf_134 6 (by decide) rfl kl_X7_34 ?_
            refine qq_iload_n dX7_orderOf_137 rfl 1 rfl ?_
            refine qq_zald dX7_orderOf_138 hS2.2.2.2.2.2.1 za ?_
            refine qq_aload_n dX7_orderOf_139 rfl 0 rfl ?_
            refine mx_get hS2 dX7_orderOf_140 6 (by decide) rfl kl_X7_34 ?_
            refine qq_iload_n dX7_orderOf_143 rfl 2 rfl ?_
            refine qq_zald dX7_orderOf_144 hS2.2.2.2.2.2.1 zb ?_
            refine qq_icmp_ne (tgt := 151) dX7_orderOf_145 (by decide) (fun zc6 => ?_) (fun zc6 => ?_)
            · refine qq_aload_n dX7_orderOf_151 rfl 0 rfl ?_
              refine mx_get hS2 dX7_orderOf_152 6 (by decide) rfl kl_X7_34 ?_
              refine qq_iload_n dX7_orderOf_155 rfl 1 rfl ?_
              refine qq_zald dX7_orderOf_156 hS2.2.2.2.2.2.1 za ?_
              refine qq_if_eq (tgt := 164) dX7_orderOf_157 (by decide) (fun zc7 => ?_) (fun zc7 => ?_)
              · refine qq_iconst (v := 1) dX7_orderOf_164 (by decide) ?_
                have ze : r_X7_orderOf a b S = 1 := by
                  rw [r_X7_orderOf, if_neg zc1, if_neg zc2, if_pos zc3, if_neg zc4, if_neg zc5, if_neg zc6, if_pos zc7]
                exact qq_iret dX7_orderOf_165 rfl rfl ⟨by rw [ze], hS2, (fr_t fr1 fr2)⟩
              · refine qq_iconst (v := (-1)) dX7_orderOf_160 (by decide) ?_
                refine qq_goto (tgt := 165) dX7_orderOf_161 (by decide) ?_
                have ze : r_X7_orderOf a b S = (-1) := by
                  rw [r_X7_orderOf, if_neg zc1, if_neg zc2, if_pos zc3, if_neg zc4, if_neg zc5, if_neg zc6, if_neg zc7]
                exact qq_iret dX7_orderOf_165 rfl rfl ⟨by rw [ze], hS2, (fr_t fr1 fr2)⟩
            · refine qq_iload dX7_orderOf_148 5 rfl ?_
              have ze : r_X7_orderOf a b S = r_X7_compare (r_X7_trueOf (S.1 a.toNatClampNeg) (S.2.1 a.toNatClampNeg) S) (r_X7_trueOf (S.1 b.toNatClampNeg) (S.2.1 b.toNatClampNeg) S) := by
                rw [r_X7_orderOf, if_neg zc1, if_neg zc2, if_pos zc3, if_neg zc4, if_neg zc5, if_pos zc6]
              exact qq_iret dX7_orderOf_150 rfl rfl ⟨by rw [ze], hS2, (fr_t fr1 fr2)⟩
    · refine qq_aload_n dX7_orderOf_39 rfl 0 rfl ?_
      refine mx_get hS dX7_orderOf_40 6 (by decide) rfl kl_X7_34 ?_
      refine qq_iload_n dX7_orderOf_43 rfl 2 rfl ?_
      refine qq_zald dX7_orderOf_44 hS.2.2.2.2.2.1 zb ?_
      refine qq_if_eq (tgt := 52) dX7_orderOf_45 (by decide) (fun zc8 => ?_) (fun zc8 => ?_)
      · refine qq_iconst (v := 1) dX7_orderOf_52 (by decide) ?_
        refine qq_goto (tgt := 57) dX7_orderOf_53 (by decide) ?_
        refine qq_istore (loc' := [(0, .ref 84), (1, .int a), (2, .int b), (3, .int 0), (4, .int 1)]) dX7_orderOf_57 [1, 2, 3, 4, 0] (Nat.le_of_ble_eq_true rfl) rfl ?_
        refine qq_iload_n dX7_orderOf_59 rfl 3 rfl ?_
        refine qq_if_ne (tgt := 68) dX7_orderOf_60 (by decide) (fun z => absurd z (by decide)) (fun _ => ?_)
        refine qq_iload dX7_orderOf_63 4 rfl ?_
        refine qq_if_eq (tgt := 75) dX7_orderOf_65 (by decide) (fun z => absurd z (by decide)) (fun _ => ?_)
        refine qq_iload_n dX7_orderOf_68 rfl 3 rfl ?_
        refine qq_iload dX7_orderOf_69 4 rfl ?_
        refine qq_less (bc' := 6 + 0) (bs' := 66 + 0) (by omega) (by omega) ?_
        refine qq_callS (bc := 6) (bs := 66) (mc := 0) (ms := 0) (as := [.int 0, .int 1]) (rest := []) dX7_orderOf_71 (mt_J6_compare_7cf53 hp (0 : Int32) (1 : Int32)) rfl kl_X7_101 ks_J6_compare_7cf53 ki_J6 kc_J6_compare_7cf53 kd_J6_compare_7cf53 rfl (by decide) (by decide) (Nat.le_of_ble_eq_true rfl) (fun v hp' hv _ _ => ?_) (fun E hp' zx _ _ => zx.elim)
        obtain ⟨rfl, rfl⟩ := hv
        show qq_Go _ hp (6) (66) 74 [(0, .ref 84), (1, .int a), (2, .int b), (3, .int 0), (4, .int 1)] [.int (f_J6_compare_7cf53 0 1)] _ _
        have ze : r_X7_orderOf a b S = f_J6_compare_7cf53 0 1 := by
          rw [r_X7_orderOf, if_neg zc1, if_pos zc2, if_pos zc8]
        exact qq_iret dX7_orderOf_74 rfl rfl ⟨by rw [ze], hS, (fr_r _ _)⟩
      · refine qq_iconst (v := (-1)) dX7_orderOf_48 (by decide) ?_
        refine qq_goto (tgt := 57) dX7_orderOf_49 (by decide) ?_
        refine qq_istore (loc' := [(0, .ref 84), (1, .int a), (2, .int b), (3, .int 0), (4, .int (-1))]) dX7_orderOf_57 [1, 2, 3, 4, 0] (Nat.le_of_ble_eq_true rfl) rfl ?_
        refine qq_iload_n dX7_orderOf_59 rfl 3 rfl ?_
        refine qq_if_ne (tgt := 68) dX7_orderOf_60 (by decide) (fun z => absurd z (by decide)) (fun _ => ?_)
        refine qq_iload dX7_orderOf_63 4 rfl ?_
        refine qq_if_eq (tgt := 75) dX7_orderOf_65 (by decide) (fun z => absurd z (by decide)) (fun _ => ?_)
        refine qq_iload_n dX7_orderOf_68 rfl 3 rfl ?_
        refine qq_iload dX7_orderOf_69 4 rfl ?_
        refine qq_less (bc' := 6 + 0) (bs' := 66 + 0) (by omega) (by omega) ?_
        refine qq_callS (bc := 6) (bs := 66) (mc := 0) (ms := 0) (as := [.int 0, .int (-1)]) (rest := []) dX7_orderOf_71 (mt_J6_compare_7cf53 hp (0 : Int32) (-1 : Int32)) rfl kl_X7_101 ks_J6_compare_7cf53 ki_J6 kc_J6_compare_7cf53 kd_J6_compare_7cf53 rfl (by decide) (by decide) (Nat.le_of_ble_eq_true rfl) (fun v hp' hv _ _ => ?_) (fun E hp' zx _ _ => zx.elim)
        obtain ⟨rfl, rfl⟩ := hv
        show qq_Go _ hp (6) (66) 74 [(0, .ref 84), (1, .int a), (2, .int b), (3, .int 0), (4, .int (-1))] [.int (f_J6_compare_7cf53 0 (-1))] _ _
        have ze : r_X7_orderOf a b S = f_J6_compare_7cf53 0 (-1) := by
          rw [r_X7_orderOf, if_neg zc1, if_pos zc2, if_neg zc8]
        exact qq_iret dX7_orderOf_74 rfl rfl ⟨by rw [ze], hS, (fr_r _ _)⟩
  · refine qq_aload_n dX7_orderOf_10 rfl 0 rfl ?_
    refine mx_get hS dX7_orderOf_11 6 (by decide) rfl kl_X7_34 ?_
    refine qq_iload_n dX7_orderOf_14 rfl 1 rfl ?_
    refine qq_zald dX7_orderOf_15 hS.2.2.2.2.2.1 za ?_
    refine qq_if_eq (tgt := 23) dX7_orderOf_16 (by decide) (fun zc9 => ?_) (fun zc9 => ?_)
    · refine qq_iconst (v := 1) dX7_orderOf_23 (by decide) ?_
      refine qq_goto (tgt := 28) dX7_orderOf_24 (by decide) ?_
      refine qq_istore_n (loc' := [(0, .ref 84), (1, .int a), (2, .int b), (3, .int 1)]) dX7_orderOf_28 rfl [1, 2, 3, 0] (Nat.le_of_ble_eq_true rfl) rfl ?_
      refine qq_aload_n dX7_orderOf_29 rfl 0 rfl ?_
      refine mx_get hS dX7_orderOf_30 4 (by decide) rfl kl_X7_28 ?_
      refine qq_iload_n dX7_orderOf_33 rfl 2 rfl ?_
      refine qq_iald dX7_orderOf_34 hS.2.2.2.1 zb ?_
      refine qq_iconst (v := 1) dX7_orderOf_35 (by decide) ?_
      refine qq_icmp_ne (tgt := 56) dX7_orderOf_36 (by decide) (fun zc10 => ?_) (fun zc10 => ?_)
      · refine qq_iconst (v := 0) dX7_orderOf_56 (by decide) ?_
        refine qq_istore (loc' := [(0, .ref 84), (1, .int a), (2, .int b), (3, .int 1), (4, .int 0)]) dX7_orderOf_57 [1, 2, 3, 4, 0] (Nat.le_of_ble_eq_true rfl) rfl ?_
        refine qq_iload_n dX7_orderOf_59 rfl 3 rfl ?_
        refine qq_if_ne (tgt := 68) dX7_orderOf_60 (by decide) (fun _ => ?_) (fun z => absurd z (by decide))
        refine qq_iload_n dX7_orderOf_68 rfl 3 rfl ?_
        refine qq_iload dX7_orderOf_69 4 rfl ?_
        refine qq_less (bc' := 6 + 0) (bs' := 66 + 0) (by omega) (by omega) ?_
        refine qq_callS (bc := 6) (bs := 66) (mc := 0) (ms := 0) (as := [.int 1, .int 0]) (rest := []) dX7_orderOf_71 (mt_J6_compare_7cf53 hp (1 : Int32) (0 : Int32)) rfl kl_X7_101 ks_J6_compare_7cf53 ki_J6 kc_J6_compare_7cf53 kd_J6_compare_7cf53 rfl (by decide) (by decide) (Nat.le_of_ble_eq_true rfl) (fun v hp' hv _ _ => ?_) (fun E hp' zx _ _ => zx.elim)
        obtain ⟨rfl, rfl⟩ := hv
        show qq_Go _ hp (6) (66) 74 [(0, .ref 84), (1, .int a), (2, .int b), (3, .int 1), (4, .int 0)] [.int (f_J6_compare_7cf53 1 0)] _ _
        have ze : r_X7_orderOf a b S = f_J6_compare_7cf53 1 0 := by
          rw [r_X7_orderOf, if_pos zc1, if_pos zc9, if_neg zc10]
        exact qq_iret dX7_orderOf_74 rfl rfl ⟨by rw [ze], hS, (fr_r _ _)⟩
      · refine qq_aload_n dX7_orderOf_39 rfl 0 rfl ?_
        refine mx_get hS dX7_orderOf_40 6 (by decide) rfl kl_X7_34 ?_
        refine qq_iload_n dX7_orderOf_43 rfl 2 rfl ?_
        refine qq_zald dX7_orderOf_44 hS.2.2.2.2.2.1 zb ?_
        refine qq_if_eq (tgt := 52) dX7_orderOf_45 (by decide) (fun zc11 => ?_) (fun zc11 => ?_)
        · refine qq_iconst (v := 1) dX7_orderOf_52 (by decide) ?_
          refine qq_goto (tgt := 57) dX7_orderOf_53 (by decide) ?_
          refine qq_istore (loc' := [(0, .ref 84), (1, .int a), (2, .int b), (3, .int 1), (4, .int 1)]) dX7_orderOf_57 [1, 2, 3, 4, 0] (Nat.le_of_ble_eq_true rfl) rfl ?_
          refine qq_iload_n dX7_orderOf_59 rfl 3 rfl ?_
          refine qq_if_ne (tgt := 68) dX7_orderOf_60 (by decide) (fun _ => ?_) (fun z => absurd z (by decide))
          refine qq_iload_n dX7_orderOf_68 rfl 3 rfl ?_
          refine qq_iload dX7_orderOf_69 4 rfl ?_
          refine qq_less (bc' := 6 + 0) (bs' := 66 + 0) (by omega) (by omega) ?_
          refine qq_callS (bc := 6) (bs := 66) (mc := 0) (ms := 0) (as := [.int 1, .int 1]) (rest := []) dX7_orderOf_71 (mt_J6_compare_7cf53 hp (1 : Int32) (1 : Int32)) rfl kl_X7_101 ks_J6_compare_7cf53 ki_J6 kc_J6_compare_7cf53 kd_J6_compare_7cf53 rfl (by decide) (by decide) (Nat.le_of_ble_eq_true rfl) (fun v hp' hv _ _ => ?_) (fun E hp' zx _ _ => zx.elim)
          obtain ⟨rfl, rfl⟩ := hv
          show qq_Go _ hp (6) (66) 74 [(0, .ref 84), (1, .int a), (2, .int b), (3, .int 1), (4, .int 1)] [.int (f_J6_compare_7cf53 1 1)] _ _
          have ze : r_X7_orderOf a b S = f_J6_compare_7cf53 1 1 := by
            rw [r_X7_orderOf, if_pos zc1, if_pos zc9, if_pos zc10, if_pos zc11]
          exact qq_iret dX7_orderOf_74 rfl rfl ⟨by rw [ze], hS, (fr_r _ _)⟩
        · refine qq_iconst (v := (-1)) dX7_orderOf_48 (by decide) ?_
          refine qq_goto (tgt := 57) dX7_orderOf_49 (by decide) ?_
          refine qq_istore (loc' := [(0, .ref 84), (1, .int a), (2, .int b), (3, .int 1), (4, .int (-1))]) dX7_orderOf_57 [1, 2, 3, 4, 0] (Nat.le_of_ble_eq_true rfl) rfl ?_
          refine qq_iload_n dX7_orderOf_59 rfl 3 rfl ?_
          refine qq_if_ne (tgt := 68) dX7_orderOf_60 (by decide) (fun _ => ?_) (fun z => absurd z (by decide))
          refine qq_iload_n dX7_orderOf_68 rfl 3 rfl ?_
          refine qq_iload dX7_orderOf_69 4 rfl ?_
          refine qq_less (bc' := 6 + 0) (bs' := 66 + 0) (by omega) (by omega) ?_
          refine qq_callS (bc := 6) (bs := 66) (mc := 0) (ms := 0) (as := [.int 1, .int (-1)]) (rest := []) dX7_orderOf_71 (mt_J6_compare_7cf53 hp (1 : Int32) (-1 : Int32)) rfl kl_X7_101 ks_J6_compare_7cf53 ki_J6 kc_J6_compare_7cf53 kd_J6_compare_7cf53 rfl (by decide) (by decide) (Nat.le_of_ble_eq_true rfl) (fun v hp' hv _ _ => ?_) (fun E hp' zx _ _ => zx.elim)
          obtain ⟨rfl, rfl⟩ := hv
          show qq_Go _ hp (6) (66) 74 [(0, .ref 84), (1, .int a), (2, .int b), (3, .int 1), (4, .int (-1))] [.int (f_J6_compare_7cf53 1 (-1))] _ _
          have ze : r_X7_orderOf a b S = f_J6_compare_7cf53 1 (-1) := by
            rw [r_X7_orderOf, if_pos zc1, if_pos zc9, if_pos zc10, if_neg zc11]
          exact qq_iret dX7_orderOf_74 rfl rfl ⟨by rw [ze], hS, (fr_r _ _)⟩
    · refine qq_iconst (v := (-1)) dX7_orderOf_19 (by decide) ?_
      refine qq_goto (tgt := 28) dX7_orderOf_20 (by decide) ?_
      refine qq_istore_n (loc' := [(0, .ref 84), (1, .int a), (2, .int b), (3, .int (-1))]) dX7_orderOf_28 rfl [1, 2, 3, 0] (Nat.le_of_ble_eq_true rfl) rfl ?_
      refine qq_aload_n dX7_orderOf_29 rfl 0 rfl ?_
      refine mx_get hS dX7_orderOf_30 4 (by decide) rfl kl_X7_28 ?_
      refine qq_iload_n dX7_orderOf_33 rfl 2 rfl ?_
      refine qq_iald dX7_orderOf_34 hS.2.2.2.1 zb ?_
      refine qq_iconst (v := 1) dX7_orderOf_35 (by decide) ?_
      refine qq_icmp_ne (tgt := 56) dX7_orderOf_36 (by decide) (fun zc12 => ?_) (fun zc12 => ?_)
      · refine qq_iconst (v := 0) dX7_orderOf_56 (by decide) ?_
        refine qq_istore (loc' := [(0, .ref 84), (1, .int a), (2, .int b), (3, .int (-1)), (4, .int 0)]) dX7_orderOf_57 [1, 2, 3, 4, 0] (Nat.le_of_ble_eq_true rfl) rfl ?_
        refine qq_iload_n dX7_orderOf_59 rfl 3 rfl ?_
        refine qq_if_ne (tgt := 68) dX7_orderOf_60 (by decide) (fun _ => ?_) (fun z => absurd z (by decide))
        refine qq_iload_n dX7_orderOf_68 rfl 3 rfl ?_
        refine qq_iload dX7_orderOf_69 4 rfl ?_
        refine qq_less (bc' := 6 + 0) (bs' := 66 + 0) (by omega) (by omega) ?_
        refine qq_callS (bc := 6) (bs := 66) (mc := 0) (ms := 0) (as := [.int (-1), .int 0]) (rest := []) dX7_orderOf_71 (mt_J6_compare_7cf53 hp (-1 : Int32) (0 : Int32)) rfl kl_X7_101 ks_J6_compare_7cf53 ki_J6 kc_J6_compare_7cf53 kd_J6_compare_7cf53 rfl (by decide) (by decide) (Nat.le_of_ble_eq_true rfl) (fun v hp' hv _ _ => ?_) (fun E hp' zx _ _ => zx.elim)
        obtain ⟨rfl, rfl⟩ := hv
        show qq_Go _ hp (6) (66) 74 [(0, .ref 84), (1, .int a), (2, .int b), (3, .int (-1)), (4, .int 0)] [.int (f_J6_compare_7cf53 (-1) 0)] _ _
        have ze : r_X7_orderOf a b S = f_J6_compare_7cf53 (-1) 0 := by
          rw [r_X7_orderOf, if_pos zc1, if_neg zc9, if_neg zc12]
        exact qq_iret dX7_orderOf_74 rfl rfl ⟨by rw [ze], hS, (fr_r _ _)⟩
      · refine qq_aload_n dX7_orderOf_39 rfl 0 rfl ?_
        refine mx_get hS dX7_orderOf_40 6 (by decide) rfl kl_X7_34 ?_
        refine qq_iload_n dX7_orderOf_43 rfl 2 rfl ?_
        refine qq_zald dX7_orderOf_44 hS.2.2.2.2.2.1 zb ?_
        refine qq_if_eq (tgt := 52) dX7_orderOf_45 (by decide) (fun zc13 => ?_) (fun zc13 => ?_)
        · refine qq_iconst (v := 1) dX7_orderOf_52 (by decide) ?_
          refine qq_goto (tgt := 57) dX7_orderOf_53 (by decide) ?_
          refine qq_istore (loc' := [(0, .ref 84), (1, .int a), (2, .int b), (3, .int (-1)), (4, .int 1)]) dX7_orderOf_57 [1, 2, 3, 4, 0] (Nat.le_of_ble_eq_true rfl) rfl ?_
          refine qq_iload_n dX7_orderOf_59 rfl 3 rfl ?_
          refine qq_if_ne (tgt := 68) dX7_orderOf_60 (by decide) (fun _ => ?_) (fun z => absurd z (by decide))
          refine qq_iload_n dX7_orderOf_68 rfl 3 rfl ?_
          refine qq_iload dX7_orderOf_69 4 rfl ?_
          refine qq_less (bc' := 6 + 0) (bs' := 66 + 0) (by omega) (by omega) ?_
          refine qq_callS (bc := 6) (bs := 66) (mc := 0) (ms := 0) (as := [.int (-1), .int 1]) (rest := []) dX7_orderOf_71 (mt_J6_compare_7cf53 hp (-1 : Int32) (1 : Int32)) rfl kl_X7_101 ks_J6_compare_7cf53 ki_J6 kc_J6_compare_7cf53 kd_J6_compare_7cf53 rfl (by decide) (by decide) (Nat.le_of_ble_eq_true rfl) (fun v hp' hv _ _ => ?_) (fun E hp' zx _ _ => zx.elim)
          obtain ⟨rfl, rfl⟩ := hv
          show qq_Go _ hp (6) (66) 74 [(0, .ref 84), (1, .int a), (2, .int b), (3, .int (-1)), (4, .int 1)] [.int (f_J6_compare_7cf53 (-1) 1)] _ _
          have ze : r_X7_orderOf a b S = f_J6_compare_7cf53 (-1) 1 := by
            rw [r_X7_orderOf, if_pos zc1, if_neg zc9, if_pos zc12, if_pos zc13]
          exact qq_iret dX7_orderOf_74 rfl rfl ⟨by rw [ze], hS, (fr_r _ _)⟩
        · refine qq_iconst (v := (-1)) dX7_orderOf_48 (by decide) ?_
          refine qq_goto (tgt := 57) dX7_orderOf_49 (by decide) ?_
          refine qq_istore (loc' := [(0, .ref 84), (1, .int a), (2, .int b), (3, .int (-1)), (4, .int (-1))]) dX7_orderOf_57 [1, 2, 3, 4, 0] (Nat.le_of_ble_eq_true rfl) rfl ?_
          refine qq_iload_n dX7_orderOf_59 rfl 3 rfl ?_
          refine qq_if_ne (tgt := 68) dX7_orderOf_60 (by decide) (fun _ => ?_) (fun z => absurd z (by decide))
          refine qq_iload_n dX7_orderOf_68 rfl 3 rfl ?_
          refine qq_iload dX7_orderOf_69 4 rfl ?_
          refine qq_less (bc' := 6 + 0) (bs' := 66 + 0) (by omega) (by omega) ?_
          refine qq_callS (bc := 6) (bs := 66) (mc := 0) (ms := 0) (as := [.int (-1), .int (-1)]) (rest := []) dX7_orderOf_71 (mt_J6_compare_7cf53 hp (-1 : Int32) (-1 : Int32)) rfl kl_X7_101 ks_J6_compare_7cf53 ki_J6 kc_J6_compare_7cf53 kd_J6_compare_7cf53 rfl (by decide) (by decide) (Nat.le_of_ble_eq_true rfl) (fun v hp' hv _ _ => ?_) (fun E hp' zx _ _ => zx.elim)
          obtain ⟨rfl, rfl⟩ := hv
          show qq_Go _ hp (6) (66) 74 [(0, .ref 84), (1, .int a), (2, .int b), (3, .int (-1)), (4, .int (-1))] [.int (f_J6_compare_7cf53 (-1) (-1))] _ _
          have ze : r_X7_orderOf a b S = f_J6_compare_7cf53 (-1) (-1) := by
            rw [r_X7_orderOf, if_pos zc1, if_neg zc9, if_pos zc12, if_neg zc13]
          exact qq_iret dX7_orderOf_74 rfl rfl ⟨by rw [ze], hS, (fr_r _ _)⟩
def r_X7_sizeOf  (f : (Nat → Int32)) (S : sM) : qR := if 0 ≤ (f (10 : Int32).toNatClampNeg) then f else r_X7_sum (1 : Int32) (r_X7_quarterOf (0 : Int32)) f
set_option maxRecDepth 4000 in
theorem mt_X7_sizeOf (hp : qq_H) (A : qA) (S : sM) (hS : ms_M A S hp)  (r1 : Nat) (f : (Nat → Int32)) (hr_r1 : hp.2 r1 = .inl (0, 11, .inl f)) (hl_r1 : r1 < hp.1)  : qq_Mt mX7_sizeOf [.ref r1] hp 2 22 (fun v hp' => ∃ r : Nat, v = some (.ref r) ∧ ms_M A S hp' ∧ fr A hp hp' ∧ hp'.2 r = c_row (r_X7_sizeOf f S) ∧ r < hp'.1) (fun _ _ => False) := by
  refine qq_met pn_X7 (Nat.le_of_ble_eq_true rfl) (Nat.le_of_ble_eq_true rfl) kc_X7_sizeOf ?_
  show qq_Go _ hp 2 22 0 [(0, .ref r1)] [] _ _
  refine qq_aload_n dX7_sizeOf_0 rfl 0 rfl ?_
  refine qq_bipush (v := 10) dX7_sizeOf_1 (by decide) ?_
  refine qq_iald dX7_sizeOf_3 hr_r1 (vp_d (by decide)) ?_
  refine qq_if_ge (tgt := 19) dX7_sizeOf_4 (by decide) (fun zc1 => ?_) (fun zc1 => ?_)
  · refine qq_aload_n dX7_sizeOf_19 rfl 0 rfl ?_
    have ze : r_X7_sizeOf f S = f := by
      rw [r_X7_sizeOf, if_pos zc1]
    exact qq_aret dX7_sizeOf_20 rfl (Or.inr ⟨_, rfl⟩) (Or.inr ⟨_, rfl⟩) ⟨_, rfl, hS, (fr_r _ _), by rw [ze]; exact hr_r1, hl_r1⟩
  · refine qq_iconst (v := 0) dX7_sizeOf_7 (by decide) ?_
    refine qq_less (bc' := 1 + 1) (bs' := 11 + 11) (by omega) (by omega) ?_
    refine qq_callS (bc := 1) (bs := 11) (mc := 1) (ms := 11) (as := [.int 0]) (rest := []) dX7_sizeOf_8 (mt_X7_quarterOf hp (0 : Int32) (ms_80 hS) ) rfl kl_X7_38 ks_X7_quarterOf ki_X7 kc_X7_quarterOf kd_X7_quarterOf rfl (by decide) (by decide) (Nat.le_of_ble_eq_true rfl) (fun v hp1 hv _ _ => ?_) (fun E hp' zx _ _ => zx.elim)
    obtain ⟨rfl, hv⟩ := hv
    obtain ⟨hS1, fr1, hr_n1, hl_n1⟩ := ms_n hS hv
    have hr_1 := fr_w fr1 hS hl_r1 hr_r1 (by decide)
    have hl_1 := fr_l fr1 hl_r1
    show qq_Go _ hp1 (1) (11) 11 [(0, .ref r1)] [.ref hp.1] _ _
    refine qq_aload_n dX7_sizeOf_11 rfl 0 rfl ?_
    refine qq_iconst (v := 1) dX7_sizeOf_12 (by decide) ?_
    refine qq_less (bc' := 0 + 1) (bs' := 0 + 11) (by omega) (by omega) ?_
    refine qq_callS (bc := 0) (bs := 0) (mc := 1) (ms := 11) (as := [.ref hp.1, .ref r1, .int 1]) (rest := []) dX7_sizeOf_13 (mt_X7_sum hp1 (1 : Int32) hp.1 r1 (r_X7_quarterOf (0 : Int32)) f hr_n1 hr_1 hl_n1 hl_1 (ms_80 hS1) ) rfl kl_X7_81 ks_X7_sum ki_X7 kc_X7_sum kd_X7_sum rfl (by decide) (by decide) (Nat.le_of_ble_eq_true rfl) (fun v hp2 hv _ _ => ?_) (fun E hp' zx _ _ => zx.elim)
    obtain ⟨rfl, hv⟩ := hv
    obtain ⟨hS2, fr2, hr_n2, hl_n2⟩ := ms_n hS1 hv
    have hr_2 := fr_w fr2 hS1 hl_1 hr_1 (by decide)
    have hl_2 := fr_l fr2 hl_1
    show qq_Go _ hp2 (0) (0) 16 [(0, .ref r1)] [.ref hp1.1] _ _
    refine qq_goto (tgt := 20) dX7_sizeOf_16 (by decide) ?_
    have ze : r_X7_sizeOf f S = r_X7_sum (1 : Int32) (r_X7_quarterOf (0 : Int32)) f := by
      rw [r_X7_sizeOf, if_neg zc1]
    exact qq_aret dX7_sizeOf_20 rfl (Or.inr ⟨_, rfl⟩) (Or.inr ⟨_, rfl⟩) ⟨_, rfl, hS2, (fr_t fr1 fr2), by rw [ze]; exact hr_n2, hl_n2⟩
def lf_X7_placeOf_4  (g09 : (Nat → Int32)) : Nat → Int32 → sM → Int32
  | 0, k9, S => k9
  | fu + 1, k9, S => if (r_X7_digitAt k9 g09) = 0 then lf_X7_placeOf_4 g09 fu (k9 + (-1)) S else k9
set_option maxRecDepth 4000 in
theorem lq_X7_placeOf_4  (A : qA) (S : sM) (r09 : Nat) (g09 : (Nat → Int32))  {P : Option Value → qq_H → Prop} {PX : String → qq_H → Prop} : ∀ (fu : Nat) (k9 : Int32) (hp : qq_H) , ms_M A S hp → hp.2 r09 = .inl (0, 11, .inl g09) → r09 < hp.1 → npl g09 k9 → (k9.toInt + 1).toNat < fu → ∀ (bc bs : Nat), qq_Go mX7_placeOf hp bc bs 18 [(0, .ref r09), (1, .int (lf_X7_placeOf_4 g09 fu k9 S))] [] P PX → qq_Go mX7_placeOf hp (0 * fu + bc) (0 * fu + bs) 4 [(0, .ref r09), (1, .int k9)] [] P PX := by
  intro fu
  induction fu with
  | zero => intro k9 hp hS hr0 hl0 zp zz; exact absurd zz (Nat.not_lt_zero _)
  | succ fu lqih =>
    intro k9 hp hS hr0 hl0 zp zh bc bs hk
    refine qq_aload_n dX7_placeOf_4 rfl 0 rfl ?_
    refine qq_iload_n dX7_placeOf_5 rfl 1 rfl ?_
    refine qq_less (bc' := bc + 0) (bs' := bs + 0) (by omega) (by omega) ?_
    refine qq_callS (bc := bc) (bs := bs) (mc := 0) (ms := 0) (as := [.ref r09, .int k9]) (rest := []) dX7_placeOf_6 (mt_X7_digitAt hp k9 r09 g09 hr0 (pl_z zp)) rfl kl_X7_97 ks_X7_digitAt ki_X7 kc_X7_digitAt kd_X7_digitAt rfl (by decide) (by decide) (Nat.le_of_ble_eq_true rfl) (fun v hp' hv _ _ => ?_) (fun E hp' zx _ _ => zx.elim)
    obtain ⟨rfl, rfl⟩ := hv
    show qq_Go _ hp (bc) (bs) 9 [(0, .ref r09), (1, .int k9)] [.int (r_X7_digitAt k9 g09)] _ _
    refine qq_if_ne (tgt := 18) dX7_placeOf_9 (by decide) (fun zc1 => ?_) (fun zc1 => ?_)
    · have ze : lf_X7_placeOf_4 g09 (fu + 1) k9 S = k9 := by
        rw [lf_X7_placeOf_4, if_neg zc1]
      rw [ze] at hk
      refine qq_less (bc' := bc) (bs' := bs) (by omega) (by omega) ?_
      exact hk
    · refine qq_iinc (v := k9 + (-1)) (loc' := [(0, .ref r09), (1, .int (k9 + (-1)))]) dX7_placeOf_12 1 rfl rfl [1, 0] (Nat.le_of_ble_eq_true rfl) rfl ?_
      refine qq_goto (tgt := 4) dX7_placeOf_15 (by decide) ?_
      have ze : lf_X7_placeOf_4 g09 (fu + 1) k9 S = lf_X7_placeOf_4 g09 fu (k9 + (-1)) S := by
        rw [lf_X7_placeOf_4, if_pos zc1]
      rw [ze] at hk
      refine qq_less (bc' := 0 * fu + bc) (bs' := 0 * fu + bs) (by omega) (by omega) ?_
      exact lqih (k9 + (-1)) hp hS hr0 hl0 (pl_in zp (by assumption)) (pl_dn zp (by assumption) zh) bc bs hk
def r_X7_placeOf  (f : (Nat → Int32)) (S : sM) : Int32 := lf_X7_placeOf_4 f 353 (351 : Int32) S
set_option maxRecDepth 4000 in
theorem mt_X7_placeOf (hp : qq_H) (A : qA) (S : sM) (hS : ms_M A S hp)  (r1 : Nat) (f : (Nat → Int32)) (hr_r1 : hp.2 r1 = .inl (0, 11, .inl f)) (hl_r1 : r1 < hp.1) (zn : npl f 351) : qq_Mt mX7_placeOf [.ref r1] hp 0 0 (fun v hp' => v = some (.int (r_X7_placeOf f S)) ∧ hp = hp') (fun _ _ => False) := by
  refine qq_met pn_X7 (Nat.le_of_ble_eq_true rfl) (Nat.le_of_ble_eq_true rfl) kc_X7_placeOf ?_
  show qq_Go _ hp 0 0 0 [(0, .ref r1)] [] _ _
  refine qq_sipush (v := 351) dX7_placeOf_0 (by decide) ?_
  refine qq_istore_n (loc' := [(0, .ref r1), (1, .int 351)]) dX7_placeOf_3 rfl [1, 0] (Nat.le_of_ble_eq_true rfl) rfl ?_
  refine qq_less (bc' := 0 + 0) (bs' := 0 + 0) (by omega) (by omega) ?_
  refine qq_less (bc' := 0 * 353 + (0)) (bs' := 0 * 353 + (0)) (by omega) (by omega) ?_
  refine lq_X7_placeOf_4 A S r1 f 353 (351 : Int32) hp hS hr_r1 hl_r1 zn (by decide) (0) (0) ?_
  show qq_Go _ hp (0) (0) 18 [(0, .ref r1), (1, .int (lf_X7_placeOf_4 f 353 (351 : Int32) S))] [] _ _
  refine qq_iload_n dX7_placeOf_18 rfl 1 rfl ?_
  have ze : r_X7_placeOf f S = lf_X7_placeOf_4 f 353 (351 : Int32) S := by
    rw [r_X7_placeOf]
  exact qq_iret dX7_placeOf_19 rfl rfl ⟨by rw [ze], rfl⟩