set_option maxRecDepth 4000 in
theorem mt_X5_checkCell (hp : qq_H) (cell : Int32)  : qq_Mt mX5_checkCell [.int cell] hp 1 6 (fun v hp' => v = none ∧ hp = hp' ∧ (¬ cell < 0 ∧ ¬ 8 ≤ cell)) (fun E hp' => hp = hp' ∧ ((E = "java/lang/IndexOutOfBoundsException" ∧ (cell < 0 ∨ 8 ≤ cell)))) := by
  refine qq_met pn_X5 (Nat.le_of_ble_eq_true rfl) (Nat.le_of_ble_eq_true rfl) kc_X5_checkCell ?_
  show qq_Go _ hp 1 6 0 [(0, .int cell)] [] _ _
  refine qq_iload_n dX5_checkCell_0 rfl 0 rfl ?_
  refine qq_if_lt (tgt := 10) dX5_checkCell_1 (by decide) (fun zc1 => ?_) (fun zc1 => ?_)
  · exact qq_throwW (bc := 0) (bs := 0) (cls := "java/lang/IndexOutOfBoundsException") (text := "a cell is 0 to 7") (sa := 10) rfl (by decide +kernel) (by decide +kernel) (by decide) kl_X5_280 ki_java_lang_IndexOutOfBoundsException (by decide +kernel) th_X5_284_1 th_X5_284_2 th_X5_284_3 dX5_checkCell_10 dX5_checkCell_13 dX5_checkCell_14 dX5_checkCell_17 dX5_checkCell_20 (Nat.le_of_ble_eq_true rfl) ⟨rfl, rfl, (by first | exact Or.inl (by assumption) | exact Or.inr (by assumption) | exact Or.inr (qm_nlt (by assumption)) | exact Or.inr (qm_nle (by assumption)) | exact Or.inr (qm_nleJ (by assumption)) | assumption)⟩
  · refine qq_iload_n dX5_checkCell_4 rfl 0 rfl ?_
    refine qq_bipush (v := 8) dX5_checkCell_5 (by decide) ?_
    refine qq_icmp_lt (tgt := 21) dX5_checkCell_7 (by decide) (fun zc2 => ?_) (fun zc2 => ?_)
    · exact qq_vret dX5_checkCell_21 rfl ⟨rfl, rfl, (by first | exact ⟨by assumption, by assumption⟩ | exact ⟨by assumption, qm_ltn (by assumption)⟩ | exact ⟨by assumption, qm_len (by assumption)⟩ | exact ⟨by assumption, qm_lenJ (by assumption)⟩ | assumption)⟩
    · exact qq_throwW (bc := 0) (bs := 0) (cls := "java/lang/IndexOutOfBoundsException") (text := "a cell is 0 to 7") (sa := 10) rfl (by decide +kernel) (by decide +kernel) (by decide) kl_X5_280 ki_java_lang_IndexOutOfBoundsException (by decide +kernel) th_X5_284_1 th_X5_284_2 th_X5_284_3 dX5_checkCell_10 dX5_checkCell_13 dX5_checkCell_14 dX5_checkCell_17 dX5_checkCell_20 (Nat.le_of_ble_eq_true rfl) ⟨rfl, rfl, (by first | exact Or.inl (by assumption) | exact Or.inr (by assumption) | exact Or.inr (qm_nlt (by assumption)) | exact Or.inr (qm_nle (by assumption)) | exact Or.inr (qm_nleJ (by assumption)) | assumption)⟩
set_option maxRecDepth 4000 in
theorem mt_X5_checkRange (hp : qq_H) (told : Int32) (lo : Int32) (up : Int32)  : qq_Mt mX5_checkRange [.int told, .int lo, .int up] hp 1 6 (fun v hp' => v = none ∧ hp = hp' ∧ (¬ told < lo ∧ ¬ up < told)) (fun E hp' => hp = hp' ∧ ((E = "java/lang/IllegalArgumentException" ∧ (told < lo ∨ up < told)))) := by
  refine qq_met pn_X5 (Nat.le_of_ble_eq_true rfl) (Nat.le_of_ble_eq_true rfl) kc_X5_checkRange ?_
  show qq_Go _ hp 1 6 0 [(0, .int told), (1, .int lo), (2, .int up)] [] _ _
  refine qq_iload_n dX5_checkRange_0 rfl 0 rfl ?_
  refine qq_iload_n dX5_checkRange_1 rfl 1 rfl ?_
  refine qq_icmp_lt (tgt := 10) dX5_checkRange_2 (by decide) (fun zc1 => ?_) (fun zc1 => ?_)
  · exact qq_throwW (bc := 0) (bs := 0) (cls := "java/lang/IllegalArgumentException") (text := "out of its range") (sa := 13) rfl (by decide +kernel) (by decide +kernel) (by decide) kl_X5_285 ki_java_lang_IllegalArgumentException (by decide +kernel) th_X5_289_1 th_X5_289_2 th_X5_289_3 dX5_checkRange_10 dX5_checkRange_13 dX5_checkRange_14 dX5_checkRange_17 dX5_checkRange_20 (Nat.le_of_ble_eq_true rfl) ⟨rfl, rfl, (by first | exact Or.inl (by assumption) | exact Or.inr (by assumption) | exact Or.inr (qm_nlt (by assumption)) | exact Or.inr (qm_nle (by assumption)) | exact Or.inr (qm_nleJ (by assumption)) | assumption)⟩
  · refine qq_iload_n dX5_checkRange_5 rfl 0 rfl ?_
    refine qq_iload_n dX5_checkRange_6 rfl 2 rfl ?_
    refine qq_icmp_le (tgt := 21) dX5_checkRange_7 (by decide) (fun zc2 => ?_) (fun zc2 => ?_)
    · exact qq_vret dX5_checkRange_21 rfl ⟨rfl, rfl, (by first | exact ⟨by assumption, by assumption⟩ | exact ⟨by assumption, qm_ltn (by assumption)⟩ | exact ⟨by assumption, qm_len (by assumption)⟩ | exact ⟨by assumption, qm_lenJ (by assumption)⟩ | assumption)⟩
    · exact qq_throwW (bc := 0) (bs := 0) (cls := "java/lang/IllegalArgumentException") (text := "out of its range") (sa := 13) rfl (by decide +kernel) (by decide +kernel) (by decide) kl_X5_285 ki_java_lang_IllegalArgumentException (by decide +kernel) th_X5_289_1 th_X5_289_2 th_X5_289_3 dX5_checkRange_10 dX5_checkRange_13 dX5_checkRange_14 dX5_checkRange_17 dX5_checkRange_20 (Nat.le_of_ble_eq_true rfl) ⟨rfl, rfl, (by first | exact Or.inl (by assumption) | exact Or.inr (by assumption) | exact Or.inr (qm_nlt (by assumption)) | exact Or.inr (qm_nle (by assumption)) | exact Or.inr (qm_nleJ (by assumption)) | assumption)⟩
set_option maxRecDepth 4000 in
theorem mt_X5_checkSeries (hp : qq_H) (how : Int32)  : qq_Mt mX5_checkSeries [.int how] hp 1 6 (fun v hp' => v = none ∧ hp = hp' ∧ (¬ how < 0 ∧ ¬ 3 < how)) (fun E hp' => hp = hp' ∧ ((E = "java/lang/IllegalArgumentException" ∧ (how < 0 ∨ 3 < how)))) := by
  refine qq_met pn_X5 (Nat.le_of_ble_eq_true rfl) (Nat.le_of_ble_eq_true rfl) kc_X5_checkSeries ?_
  show qq_Go _ hp 1 6 0 [(0, .int how)] [] _ _
  refine qq_iload_n dX5_checkSeries_0 rfl 0 rfl ?_
  refine qq_iconst (v := 0) dX5_checkSeries_1 (by decide) ?_
  refine qq_iconst (v := 3) dX5_checkSeries_2 (by decide) ?_
  refine qq_callS (bc := 0) (bs := 0) (mc := 1) (ms := 6) (as := [.int how, .int 0, .int 3]) (rest := []) dX5_checkSeries_3 (mt_X5_checkRange hp how (0 : Int32) (3 : Int32) ) rfl kl_X5_36 ks_X5_checkRange ki_X5 kc_X5_checkRange kd_X5_checkRange rfl (by decide) (by decide) (Nat.le_of_ble_eq_true rfl) (fun v hp' hv _ _ => ?_) (fun E hp' zx _ _ => by obtain ⟨rfl, rfl, zf⟩ := zx; exact qq_thr rfl ⟨rfl, ⟨rfl, zf⟩⟩)
  obtain ⟨rfl, rfl, zg1⟩ := hv
  have zg11 := zg1.1
  have zg12 := zg1.2
  show qq_Go _ hp 0 0 6 [(0, .int how)] [] _ _
  exact qq_vret dX5_checkSeries_6 rfl ⟨rfl, rfl, zg1⟩
set_option maxRecDepth 4000 in
theorem mt_X5_checkHeight (hp : qq_H) (S : sX) (hS : cs_X S hp) (cell : Int32) (zi : vp_in cell 8) : qq_Mt mX5_checkHeight [.ref 80, .int cell] hp 1 6 (fun v hp' => v = none ∧ hp = hp' ∧ (¬ f_X2_hasHeight (S.1 cell.toNatClampNeg) = 0)) (fun E hp' => hp = hp' ∧ ((E = "java/lang/IllegalStateException" ∧ (f_X2_hasHeight (S.1 cell.toNatClampNeg) = 0)))) := by
  refine qq_met pn_X5 (Nat.le_of_ble_eq_true rfl) (Nat.le_of_ble_eq_true rfl) kc_X5_checkHeight ?_
  show qq_Go _ hp 1 6 0 [(0, .ref 80), (1, .int cell)] [] _ _
  refine qq_aload_n dX5_checkHeight_0 rfl 0 rfl ?_
  refine cx_get hS dX5_checkHeight_1 0 (by decide) rfl kl_X5_9 ?_
  refine qq_iload_n dX5_checkHeight_4 rfl 1 rfl ?_
  refine qq_iald dX5_checkHeight_5 hS.2.2.2.1 (by first | assumption | exact qm_in8 (by assumption) (by assumption) | exact qm_in8d (by assumption) (by assumption) | decide) ?_
  refine qq_callS (bc := 1) (bs := 6) (mc := 0) (ms := 0) (as := [.int (S.1 cell.toNatClampNeg)]) (rest := []) dX5_checkHeight_6 (mt_X2_hasHeight hp (S.1 cell.toNatClampNeg)) rfl kl_X5_252 ks_X2_hasHeight ki_X2 kc_X2_hasHeight kd_X2_hasHeight rfl (by decide) (by decide) (Nat.le_of_ble_eq_true rfl) (fun v hp' hv _ _ => ?_) (fun E hp' zx _ _ => zx.elim)
  obtain ⟨rfl, rfl⟩ := hv
  show qq_Go _ hp 1 6 9 [(0, .ref 80), (1, .int cell)] [.int (f_X2_hasHeight (S.1 cell.toNatClampNeg))] _ _
  refine qq_if_ne (tgt := 23) dX5_checkHeight_9 (by decide) (fun zc1 => ?_) (fun zc1 => ?_)
  · exact qq_vret dX5_checkHeight_23 rfl ⟨rfl, rfl, (by first | exact ⟨by assumption, by assumption⟩ | exact ⟨by assumption, qm_ltn (by assumption)⟩ | exact ⟨by assumption, qm_len (by assumption)⟩ | exact ⟨by assumption, qm_lenJ (by assumption)⟩ | assumption)⟩
  · exact qq_throwW (bc := 0) (bs := 0) (cls := "java/lang/IllegalStateException") (text := "it has no HEIGHT") (sa := 11) rfl (by decide +kernel) (by decide +kernel) (by decide) kl_X5_102 ki_java_lang_IllegalStateException (by decide +kernel) th_X5_106_1 th_X5_106_2 th_X5_106_3 dX5_checkHeight_12 dX5_checkHeight_15 dX5_checkHeight_16 dX5_checkHeight_19 dX5_checkHeight_22 (Nat.le_of_ble_eq_true rfl) ⟨rfl, rfl, (by first | exact Or.inl (by assumption) | exact Or.inr (by assumption) | exact Or.inr (qm_nlt (by assumption)) | exact Or.inr (qm_nle (by assumption)) | exact Or.inr (qm_nleJ (by assumption)) | assumption)⟩
set_option maxRecDepth 4000 in
theorem mt_X5_checkToldDigits (hp : qq_H) (S : sX) (hS : cs_X S hp) (cell : Int32) (zi : vp_in cell 8) : qq_Mt mX5_checkToldDigits [.ref 80, .int cell] hp 1 6 (fun v hp' => v = none ∧ hp = hp' ∧ (¬ f_X2_hasToldDigits (S.1 cell.toNatClampNeg) = 0)) (fun E hp' => hp = hp' ∧ ((E = "java/lang/IllegalStateException" ∧ (f_X2_hasToldDigits (S.1 cell.toNatClampNeg) = 0)))) := by
  refine qq_met pn_X5 (Nat.le_of_ble_eq_true rfl) (Nat.le_of_ble_eq_true rfl) kc_X5_checkToldDigits ?_
  show qq_Go _ hp 1 6 0 [(0, .ref 80), (1, .int cell)] [] _ _
  refine qq_aload_n dX5_checkToldDigits_0 rfl 0 rfl ?_
  refine cx_get hS dX5_checkToldDigits_1 0 (by decide) rfl kl_X5_9 ?_
  refine qq_iload_n dX5_checkToldDigits_4 rfl 1 rfl ?_
  refine qq_iald dX5_checkToldDigits_5 hS.2.2.2.1 (by first | assumption | exact qm_in8 (by assumption) (by assumption) | exact qm_in8d (by assumption) (by assumption) | decide) ?_
  refine qq_callS (bc := 1) (bs := 6) (mc := 0) (ms := 0) (as := [.int (S.1 cell.toNatClampNeg)]) (rest := []) dX5_checkToldDigits_6 (mt_X2_hasToldDigits hp (S.1 cell.toNatClampNeg)) rfl kl_X5_261 ks_X2_hasToldDigits ki_X2 kc_X2_hasToldDigits kd_X2_hasToldDigits rfl (by decide) (by decide) (Nat.le_of_ble_eq_true rfl) (fun v hp' hv _ _ => ?_) (fun E hp' zx _ _ => zx.elim)
  obtain ⟨rfl, rfl⟩ := hv
  show qq_Go _ hp 1 6 9 [(0, .ref 80), (1, .int cell)] [.int (f_X2_hasToldDigits (S.1 cell.toNatClampNeg))] _ _
  refine qq_if_ne (tgt := 23) dX5_checkToldDigits_9 (by decide) (fun zc1 => ?_) (fun zc1 => ?_)
  · exact qq_vret dX5_checkToldDigits_23 rfl ⟨rfl, rfl, (by first | exact ⟨by assumption, by assumption⟩ | exact ⟨by assumption, qm_ltn (by assumption)⟩ | exact ⟨by assumption, qm_len (by assumption)⟩ | exact ⟨by assumption, qm_lenJ (by assumption)⟩ | assumption)⟩
  · exact qq_throwW (bc := 0) (bs := 0) (cls := "java/lang/IllegalStateException") (text := "its 64 digits are not told") (sa := 12) rfl (by decide +kernel) (by decide +kernel) (by decide) kl_X5_102 ki_java_lang_IllegalStateException (by decide +kernel) th_X5_106_1 th_X5_106_2 th_X5_106_3 dX5_checkToldDigits_12 dX5_checkToldDigits_15 dX5_checkToldDigits_16 dX5_checkToldDigits_19 dX5_checkToldDigits_22 (Nat.le_of_ble_eq_true rfl) ⟨rfl, rfl, (by first | exact Or.inl (by assumption) | exact Or.inr (by assumption) | exact Or.inr (qm_nlt (by assumption)) | exact Or.inr (qm_nle (by assumption)) | exact Or.inr (qm_nleJ (by assumption)) | assumption)⟩
set_option maxRecDepth 4000 in
theorem mt_X5_checkNear (hp : qq_H) (S : sX) (hS : cs_X S hp) (a : Int32) (b : Int32) (zi : vp_in a 8) (zj : vp_in b 8) : qq_Mt mX5_checkNear [.ref 80, .int a, .int b] hp 1 6 (fun v hp' => v = none ∧ hp = hp' ∧ (¬ f_X2_areNear (S.1 a.toNatClampNeg) (S.1 b.toNatClampNeg) = 0)) (fun E hp' => hp = hp' ∧ ((E = "java/lang/IllegalStateException" ∧ (f_X2_areNear (S.1 a.toNatClampNeg) (S.1 b.toNatClampNeg) = 0)))) := by
  refine qq_met pn_X5 (Nat.le_of_ble_eq_true rfl) (Nat.le_of_ble_eq_true rfl) kc_X5_checkNear ?_
  show qq_Go _ hp 1 6 0 [(0, .ref 80), (1, .int a), (2, .int b)] [] _ _
  refine qq_aload_n dX5_checkNear_0 rfl 0 rfl ?_
  refine cx_get hS dX5_checkNear_1 0 (by decide) rfl kl_X5_9 ?_
  refine qq_iload_n dX5_checkNear_4 rfl 1 rfl ?_
  refine qq_iald dX5_checkNear_5 hS.2.2.2.1 (by first | assumption | exact qm_in8 (by assumption) (by assumption) | exact qm_in8d (by assumption) (by assumption) | decide) ?_
  refine qq_aload_n dX5_checkNear_6 rfl 0 rfl ?_
  refine cx_get hS dX5_checkNear_7 0 (by decide) rfl kl_X5_9 ?_
  refine qq_iload_n dX5_checkNear_10 rfl 2 rfl ?_
  refine qq_iald dX5_checkNear_11 hS.2.2.2.1 (by first | assumption | exact qm_in8 (by assumption) (by assumption) | exact qm_in8d (by assumption) (by assumption) | decide) ?_
  refine qq_callS (bc := 1) (bs := 6) (mc := 0) (ms := 0) (as := [.int (S.1 a.toNatClampNeg), .int (S.1 b.toNatClampNeg)]) (rest := []) dX5_checkNear_12 (mt_X2_areNear hp (S.1 a.toNatClampNeg) (S.1 b.toNatClampNeg)) rfl kl_X5_133 ks_X2_areNear ki_X2 kc_X2_areNear kd_X2_areNear rfl (by decide) (by decide) (Nat.le_of_ble_eq_true rfl) (fun v hp' hv _ _ => ?_) (fun E hp' zx _ _ => zx.elim)
  obtain ⟨rfl, rfl⟩ := hv
  show qq_Go _ hp 1 6 15 [(0, .ref 80), (1, .int a), (2, .int b)] [.int (f_X2_areNear (S.1 a.toNatClampNeg) (S.1 b.toNatClampNeg))] _ _
  refine qq_if_ne (tgt := 29) dX5_checkNear_15 (by decide) (fun zc1 => ?_) (fun zc1 => ?_)
  · exact qq_vret dX5_checkNear_29 rfl ⟨rfl, rfl, (by first | exact ⟨by assumption, by assumption⟩ | exact ⟨by assumption, qm_ltn (by assumption)⟩ | exact ⟨by assumption, qm_len (by assumption)⟩ | exact ⟨by assumption, qm_lenJ (by assumption)⟩ | assumption)⟩
  · exact qq_throwW (bc := 0) (bs := 0) (cls := "java/lang/IllegalStateException") (text := "they are not NEAR") (sa := 16) rfl (by decide +kernel) (by decide +kernel) (by decide) kl_X5_102 ki_java_lang_IllegalStateException (by decide +kernel) th_X5_106_1 th_X5_106_2 th_X5_106_3 dX5_checkNear_18 dX5_checkNear_21 dX5_checkNear_22 dX5_checkNear_25 dX5_checkNear_28 (Nat.le_of_ble_eq_true rfl) ⟨rfl, rfl, (by first | exact Or.inl (by assumption) | exact Or.inr (by assumption) | exact Or.inr (qm_nlt (by assumption)) | exact Or.inr (qm_nle (by assumption)) | exact Or.inr (qm_nleJ (by assumption)) | assumption)⟩
def r_X5_checkedInt (w : Int64) : Int32 := w.toInt32
set_option maxRecDepth 4000 in
theorem mt_X5_checkedInt (hp : qq_H) (w : Int64)  : qq_Mt mX5_checkedInt [.long w] hp 1 6 (fun v hp' => v = some (.int (r_X5_checkedInt w)) ∧ hp = hp' ∧ (¬ w < -2147483648 ∧ ¬ 2147483647 < w)) (fun E hp' => hp = hp' ∧ ((E = "java/lang/IllegalStateException" ∧ (w < -2147483648 ∨ 2147483647 < w)))) := by
  refine qq_met pn_X5 (Nat.le_of_ble_eq_true rfl) (Nat.le_of_ble_eq_true rfl) kc_X5_checkedInt ?_
  show qq_Go _ hp 1 6 0 [(0, .long w)] [] _ _
  refine qq_lload_n dX5_checkedInt_0 rfl 0 rfl ?_
  refine qq_ldc2 (v := (-2147483648)) dX5_checkedInt_1 kl_X5_296 ?_
  refine qq_lc_lt (tgt := 16) dX5_checkedInt_4 dX5_checkedInt_5 (by decide) (fun zc1 => ?_) (fun zc1 => ?_)
  · exact qq_throwW (bc := 0) (bs := 0) (cls := "java/lang/IllegalStateException") (text := "the WHOLE has more than 32 bits") (sa := 15) rfl (by decide +kernel) (by decide +kernel) (by decide) kl_X5_102 ki_java_lang_IllegalStateException (by decide +kernel) th_X5_106_1 th_X5_106_2 th_X5_106_3 dX5_checkedInt_16 dX5_checkedInt_19 dX5_checkedInt_20 dX5_checkedInt_23 dX5_checkedInt_26 (Nat.le_of_ble_eq_true rfl) ⟨rfl, rfl, (by first | exact Or.inl (by assumption) | exact Or.inr (by assumption) | exact Or.inr (qm_nlt (by assumption)) | exact Or.inr (qm_nle (by assumption)) | exact Or.inr (qm_nleJ (by assumption)) | assumption)⟩
  · refine qq_lload_n dX5_checkedInt_8 rfl 0 rfl ?_
    refine qq_ldc2 (v := 2147483647) dX5_checkedInt_9 kl_X5_298 ?_
    refine qq_lc_le (tgt := 27) dX5_checkedInt_12 dX5_checkedInt_13 (by decide) (fun zc2 => ?_) (fun zc2 => ?_)
    · refine qq_lload_n dX5_checkedInt_27 rfl 0 rfl ?_
      refine qq_l2i dX5_checkedInt_28 ?_
      have ze : r_X5_checkedInt w = w.toInt32 := by
        rw [r_X5_checkedInt]
      exact qq_iret dX5_checkedInt_29 rfl rfl ⟨by rw [ze], rfl, (by first | exact ⟨by assumption, by assumption⟩ | exact ⟨by assumption, qm_ltn (by assumption)⟩ | exact ⟨by assumption, qm_len (by assumption)⟩ | exact ⟨by assumption, qm_lenJ (by assumption)⟩ | assumption)⟩
    · exact qq_throwW (bc := 0) (bs := 0) (cls := "java/lang/IllegalStateException") (text := "the WHOLE has more than 32 bits") (sa := 15) rfl (by decide +kernel) (by decide +kernel) (by decide) kl_X5_102 ki_java_lang_IllegalStateException (by decide +kernel) th_X5_106_1 th_X5_106_2 th_X5_106_3 dX5_checkedInt_16 dX5_checkedInt_19 dX5_checkedInt_20 dX5_checkedInt_23 dX5_checkedInt_26 (Nat.le_of_ble_eq_true rfl) ⟨rfl, rfl, (by first | exact Or.inl (by assumption) | exact Or.inr (by assumption) | exact Or.inr (qm_nlt (by assumption)) | exact Or.inr (qm_nle (by assumption)) | exact Or.inr (qm_nleJ (by assumption)) | assumption)⟩