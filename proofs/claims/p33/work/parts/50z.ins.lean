def r_X5_place (cell : Int32) (num : Int32) (S : sX) : sX := (upd S.1 cell.toNatClampNeg num, vp_updL S.2.1 cell.toNatClampNeg (f_X1_digitsOf num), S.2.2.1, S.2.2.2.1, S.2.2.2.2.1, S.2.2.2.2.2)
set_option maxRecDepth 4000 in
theorem mt_X5_place (hp : qq_H) (S : sX) (hS : cs_X S hp) (cell : Int32) (num : Int32) (zi : vp_in cell 8) : qq_Mt mX5_place [.ref 80, .int cell, .int num] hp 0 0 (fun v hp' => v = none ∧ cs_X (r_X5_place cell num S) hp' ∧ sm_X hp hp') (fun _ _ => False) := by
  refine qq_met pn_X5 (Nat.le_of_ble_eq_true rfl) (Nat.le_of_ble_eq_true rfl) kc_X5_place ?_
  show qq_Go _ hp 0 0 0 [(0, .ref 80), (1, .int cell), (2, .int num)] [] _ _
  refine qq_aload_n dX5_place_0 rfl 0 rfl ?_
  refine cx_get hS dX5_place_1 0 (by decide) rfl kl_X5_9 ?_
  refine qq_iload_n dX5_place_4 rfl 1 rfl ?_
  refine qq_iload_n dX5_place_5 rfl 2 rfl ?_
  refine cx_st81 hS dX5_place_6 (by first | assumption | exact qm_in8 (by assumption) (by assumption) | exact qm_in8d (by assumption) (by assumption) | decide) (fun hp1 hS1 sM1 => ?_)
  replace hS1 : cs_X (upd S.1 cell.toNatClampNeg num, S.2.1, S.2.2.1, S.2.2.2.1, S.2.2.2.2.1, S.2.2.2.2.2) hp1 := hS1
  refine qq_aload_n dX5_place_7 rfl 0 rfl ?_
  refine cx_get hS1 dX5_place_8 1 (by decide) rfl kl_X5_13 ?_
  refine qq_iload_n dX5_place_11 rfl 1 rfl ?_
  refine qq_iload_n dX5_place_12 rfl 2 rfl ?_
  refine qq_callS (bc := 0) (bs := 0) (mc := 0) (ms := 0) (as := [.int num]) (rest := [.int cell, .ref 82]) dX5_place_13 (mt_X1_digitsOf hp1 num hS1.1) rfl kl_X5_26 ks_X1_digitsOf ki_X1 kc_X1_digitsOf kd_X1_digitsOf rfl (by decide) (by decide) (Nat.le_of_ble_eq_true rfl) (fun v hp' hv _ _ => ?_) (fun E hp' zx _ _ => zx.elim)
  obtain ⟨rfl, rfl⟩ := hv
  show qq_Go _ hp1 0 0 16 [(0, .ref 80), (1, .int cell), (2, .int num)] [.long (f_X1_digitsOf num), .int cell, .ref 82] _ _
  refine cx_st82 hS1 dX5_place_16 (by first | assumption | exact qm_in8 (by assumption) (by assumption) | exact qm_in8d (by assumption) (by assumption) | decide) (fun hp2 hS2 sM2 => ?_)
  replace hS2 : cs_X (upd S.1 cell.toNatClampNeg num, vp_updL S.2.1 cell.toNatClampNeg (f_X1_digitsOf num), S.2.2.1, S.2.2.2.1, S.2.2.2.2.1, S.2.2.2.2.2) hp2 := hS2
  have ze : r_X5_place cell num S = (upd S.1 cell.toNatClampNeg num, vp_updL S.2.1 cell.toNatClampNeg (f_X1_digitsOf num), S.2.2.1, S.2.2.2.1, S.2.2.2.2.1, S.2.2.2.2.2) := by
    rw [r_X5_place]
  exact qq_vret dX5_place_17 rfl ⟨rfl, by rw [ze]; exact hS2, (sm_t sM1 sM2)⟩
def r_X5_countAct (told : Int32) (S : sX) : Int32 × sX := (told, (S.1, S.2.1, S.2.2.1, S.2.2.2.1 + 1, S.2.2.2.2.1, S.2.2.2.2.2))
set_option maxRecDepth 4000 in
theorem mt_X5_countAct (hp : qq_H) (S : sX) (hS : cs_X S hp) (told : Int32)  : qq_Mt mX5_countAct [.ref 80, .int told] hp 0 0 (fun v hp' => v = some (.int ((r_X5_countAct told S).1)) ∧ cs_X ((r_X5_countAct told S).2) hp' ∧ sm_X hp hp') (fun _ _ => False) := by
  refine qq_met pn_X5 (Nat.le_of_ble_eq_true rfl) (Nat.le_of_ble_eq_true rfl) kc_X5_countAct ?_
  show qq_Go _ hp 0 0 0 [(0, .ref 80), (1, .int told)] [] _ _
  refine qq_aload_n dX5_countAct_0 rfl 0 rfl ?_
  refine qq_dup dX5_countAct_1 rfl ?_
  refine cx_get hS dX5_countAct_2 3 (by decide) rfl kl_X5_199 ?_
  refine qq_iconst (v := 1) dX5_countAct_5 (by decide) ?_
  refine qq_iadd dX5_countAct_6 ?_
  refine cx_put3 hS dX5_countAct_7 kl_X5_199 (fun hp1 hS1 sM1 => ?_)
  replace hS1 : cs_X (S.1, S.2.1, S.2.2.1, S.2.2.2.1 + 1, S.2.2.2.2.1, S.2.2.2.2.2) hp1 := hS1
  refine qq_iload_n dX5_countAct_10 rfl 1 rfl ?_
  have ze : r_X5_countAct told S = (told, (S.1, S.2.1, S.2.2.1, S.2.2.2.1 + 1, S.2.2.2.2.1, S.2.2.2.2.2)) := by
    rw [r_X5_countAct]
  exact qq_iret dX5_countAct_11 rfl rfl ⟨by rw [ze], by rw [ze]; exact hS1, sM1⟩
def r_X5_refuse  (S : sX) : Int32 × sX := ((-9), (S.1, S.2.1, S.2.2.1, S.2.2.2.1, S.2.2.2.2.1 + 1, S.2.2.2.2.2))
set_option maxRecDepth 4000 in
theorem mt_X5_refuse (hp : qq_H) (S : sX) (hS : cs_X S hp)   : qq_Mt mX5_refuse [.ref 80] hp 0 0 (fun v hp' => v = some (.int ((r_X5_refuse S).1)) ∧ cs_X ((r_X5_refuse S).2) hp' ∧ sm_X hp hp') (fun _ _ => False) := by
  refine qq_met pn_X5 (Nat.le_of_ble_eq_true rfl) (Nat.le_of_ble_eq_true rfl) kc_X5_refuse ?_
  show qq_Go _ hp 0 0 0 [(0, .ref 80)] [] _ _
  refine qq_aload_n dX5_refuse_0 rfl 0 rfl ?_
  refine qq_dup dX5_refuse_1 rfl ?_
  refine cx_get hS dX5_refuse_2 4 (by decide) rfl kl_X5_203 ?_
  refine qq_iconst (v := 1) dX5_refuse_5 (by decide) ?_
  refine qq_iadd dX5_refuse_6 ?_
  refine cx_put4 hS dX5_refuse_7 kl_X5_203 (fun hp1 hS1 sM1 => ?_)
  replace hS1 : cs_X (S.1, S.2.1, S.2.2.1, S.2.2.2.1, S.2.2.2.2.1 + 1, S.2.2.2.2.2) hp1 := hS1
  refine qq_bipush (v := (-9)) dX5_refuse_10 (by decide) ?_
  have ze : r_X5_refuse S = ((-9), (S.1, S.2.1, S.2.2.1, S.2.2.2.1, S.2.2.2.2.1 + 1, S.2.2.2.2.2)) := by
    rw [r_X5_refuse]
  exact qq_iret dX5_refuse_12 rfl rfl ⟨by rw [ze], by rw [ze]; exact hS1, sM1⟩
def r_X5_bring (cell : Int32) (num : Int32) (S : sX) : Int32 × sX := if (S.1 cell.toNatClampNeg) = num then ((r_X5_countAct (0 : Int32) (r_X5_place cell num S)).1, (r_X5_countAct (0 : Int32) (r_X5_place cell num S)).2) else ((r_X5_countAct (1 : Int32) (r_X5_place cell num S)).1, (r_X5_countAct (1 : Int32) (r_X5_place cell num S)).2)
set_option maxRecDepth 4000 in
theorem mt_X5_bring (hp : qq_H) (S : sX) (hS : cs_X S hp) (cell : Int32) (num : Int32) (zi : vp_in cell 8) : qq_Mt mX5_bring [.ref 80, .int cell, .int num] hp 0 0 (fun v hp' => v = some (.int ((r_X5_bring cell num S).1)) ∧ cs_X ((r_X5_bring cell num S).2) hp' ∧ sm_X hp hp') (fun _ _ => False) := by
  refine qq_met pn_X5 (Nat.le_of_ble_eq_true rfl) (Nat.le_of_ble_eq_true rfl) kc_X5_bring ?_
  show qq_Go _ hp 0 0 0 [(0, .ref 80), (1, .int cell), (2, .int num)] [] _ _
  refine qq_aload_n dX5_bring_0 rfl 0 rfl ?_
  refine cx_get hS dX5_bring_1 0 (by decide) rfl kl_X5_9 ?_
  refine qq_iload_n dX5_bring_4 rfl 1 rfl ?_
  refine qq_iald dX5_bring_5 hS.2.2.2.1 (by first | assumption | exact qm_in8 (by assumption) (by assumption) | exact qm_in8d (by assumption) (by assumption) | decide) ?_
  refine qq_iload_n dX5_bring_6 rfl 2 rfl ?_
  refine qq_icmp_ne (tgt := 14) dX5_bring_7 (by decide) (fun zc1 => ?_) (fun zc1 => ?_)
  · refine qq_iconst (v := 1) dX5_bring_14 (by decide) ?_
    refine qq_istore_n (loc' := [(0, .ref 80), (1, .int cell), (2, .int num), (3, .int 1)]) dX5_bring_15 rfl [1, 2, 3, 0] (Nat.le_of_ble_eq_true rfl) rfl ?_
    refine qq_aload_n dX5_bring_16 rfl 0 rfl ?_
    refine qq_iload_n dX5_bring_17 rfl 1 rfl ?_
    refine qq_iload_n dX5_bring_18 rfl 2 rfl ?_
    refine qq_callV (bc := 0) (bs := 0) (mc := 0) (ms := 0) (o := 80) (ci := 2) (N := 6) (T := TX5) (as := [.int cell, .int num]) (rest := []) dX5_bring_19 hS.2.2.1 (by decide) rfl (mt_X5_place hp S hS cell num (by first | assumption | exact ⟨by assumption, by assumption⟩ | exact qm_in8 (by assumption) (by assumption) | exact ⟨by assumption, qm_len (by assumption)⟩ | exact qm_in8d (by assumption) (by assumption) | decide)) rfl kl_X5_62 kn_X5_place ke_X5_place ki_X5 kc_X5_place kd_X5_place rfl (by decide) (by decide) (Nat.le_of_ble_eq_true rfl) (fun v hp1 hv _ _ => ?_) (fun E hp' zx _ _ => zx.elim)
    obtain ⟨rfl, hS1, sM1⟩ := hv
    show qq_Go _ hp1 0 0 22 [(0, .ref 80), (1, .int cell), (2, .int num), (3, .int 1)] [] _ _
    refine qq_aload_n dX5_bring_22 rfl 0 rfl ?_
    refine qq_iload_n dX5_bring_23 rfl 3 rfl ?_
    refine qq_callV (bc := 0) (bs := 0) (mc := 0) (ms := 0) (o := 80) (ci := 2) (N := 6) (T := TX5) (as := [.int 1]) (rest := []) dX5_bring_24 hS1.2.2.1 (by decide) rfl (mt_X5_countAct hp1 (r_X5_place cell num S) hS1 (1 : Int32) ) rfl kl_X5_69 kn_X5_countAct ke_X5_countAct ki_X5 kc_X5_countAct kd_X5_countAct rfl (by decide) (by decide) (Nat.le_of_ble_eq_true rfl) (fun v hp2 hv _ _ => ?_) (fun E hp' zx _ _ => zx.elim)
    obtain ⟨rfl, hS2, sM2⟩ := hv
    show qq_Go _ hp2 0 0 27 [(0, .ref 80), (1, .int cell), (2, .int num), (3, .int 1)] [.int ((r_X5_countAct (1 : Int32) (r_X5_place cell num S)).1)] _ _
    have ze : r_X5_bring cell num S = ((r_X5_countAct (1 : Int32) (r_X5_place cell num S)).1, (r_X5_countAct (1 : Int32) (r_X5_place cell num S)).2) := by
      rw [r_X5_bring, if_neg zc1]
    exact qq_iret dX5_bring_27 rfl rfl ⟨by rw [ze], by rw [ze]; exact hS2, (sm_t sM1 sM2)⟩
  · refine qq_iconst (v := 0) dX5_bring_10 (by decide) ?_
    refine qq_goto (tgt := 15) dX5_bring_11 (by decide) ?_
    refine qq_istore_n (loc' := [(0, .ref 80), (1, .int cell), (2, .int num), (3, .int 0)]) dX5_bring_15 rfl [1, 2, 3, 0] (Nat.le_of_ble_eq_true rfl) rfl ?_
    refine qq_aload_n dX5_bring_16 rfl 0 rfl ?_
    refine qq_iload_n dX5_bring_17 rfl 1 rfl ?_
    refine qq_iload_n dX5_bring_18 rfl 2 rfl ?_
    refine qq_callV (bc := 0) (bs := 0) (mc := 0) (ms := 0) (o := 80) (ci := 2) (N := 6) (T := TX5) (as := [.int cell, .int num]) (rest := []) dX5_bring_19 hS.2.2.1 (by decide) rfl (mt_X5_place hp S hS cell num (by first | assumption | exact ⟨by assumption, by assumption⟩ | exact qm_in8 (by assumption) (by assumption) | exact ⟨by assumption, qm_len (by assumption)⟩ | exact qm_in8d (by assumption) (by assumption) | decide)) rfl kl_X5_62 kn_X5_place ke_X5_place ki_X5 kc_X5_place kd_X5_place rfl (by decide) (by decide) (Nat.le_of_ble_eq_true rfl) (fun v hp3 hv _ _ => ?_) (fun E hp' zx _ _ => zx.elim)
    obtain ⟨rfl, hS3, sM3⟩ := hv
    show qq_Go _ hp3 0 0 22 [(0, .ref 80), (1, .int cell), (2, .int num), (3, .int 0)] [] _ _
    refine qq_aload_n dX5_bring_22 rfl 0 rfl ?_
    refine qq_iload_n dX5_bring_23 rfl 3 rfl ?_
    refine qq_callV (bc := 0) (bs := 0) (mc := 0) (ms := 0) (o := 80) (ci := 2) (N := 6) (T := TX5) (as := [.int 0]) (rest := []) dX5_bring_24 hS3.2.2.1 (by decide) rfl (mt_X5_countAct hp3 (r_X5_place cell num S) hS3 (0 : Int32) ) rfl kl_X5_69 kn_X5_countAct ke_X5_countAct ki_X5 kc_X5_countAct kd_X5_countAct rfl (by decide) (by decide) (Nat.le_of_ble_eq_true rfl) (fun v hp4 hv _ _ => ?_) (fun E hp' zx _ _ => zx.elim)
    obtain ⟨rfl, hS4, sM4⟩ := hv
    show qq_Go _ hp4 0 0 27 [(0, .ref 80), (1, .int cell), (2, .int num), (3, .int 0)] [.int ((r_X5_countAct (0 : Int32) (r_X5_place cell num S)).1)] _ _
    have ze : r_X5_bring cell num S = ((r_X5_countAct (0 : Int32) (r_X5_place cell num S)).1, (r_X5_countAct (0 : Int32) (r_X5_place cell num S)).2) := by
      rw [r_X5_bring, if_pos zc1]
    exact qq_iret dX5_bring_27 rfl rfl ⟨by rw [ze], by rw [ze]; exact hS4, (sm_t sM3 sM4)⟩
def r_X5_compareCells (a : Int32) (b : Int32) (S : sX) : Int32 := f_X1_compare (S.2.1 a.toNatClampNeg) (S.2.1 b.toNatClampNeg)
set_option maxRecDepth 4000 in
theorem mt_X5_compareCells (hp : qq_H) (S : sX) (hS : cs_X S hp) (a : Int32) (b : Int32) (zi : vp_in a 8) (zj : vp_in b 8) : qq_Mt mX5_compareCells [.ref 80, .int a, .int b] hp 0 0 (fun v hp' => v = some (.int (r_X5_compareCells a b S)) ∧ hp = hp') (fun _ _ => False) := by
  refine qq_met pn_X5 (Nat.le_of_ble_eq_true rfl) (Nat.le_of_ble_eq_true rfl) kc_X5_compareCells ?_
  show qq_Go _ hp 0 0 0 [(0, .ref 80), (1, .int a), (2, .int b)] [] _ _
  refine qq_aload_n dX5_compareCells_0 rfl 0 rfl ?_
  refine cx_get hS dX5_compareCells_1 1 (by decide) rfl kl_X5_13 ?_
  refine qq_iload_n dX5_compareCells_4 rfl 1 rfl ?_
  refine qq_lald dX5_compareCells_5 hS.2.2.2.2.1 (by first | assumption | exact qm_in8 (by assumption) (by assumption) | exact qm_in8d (by assumption) (by assumption) | decide) ?_
  refine qq_aload_n dX5_compareCells_6 rfl 0 rfl ?_
  refine cx_get hS dX5_compareCells_7 1 (by decide) rfl kl_X5_13 ?_
  refine qq_iload_n dX5_compareCells_10 rfl 2 rfl ?_
  refine qq_lald dX5_compareCells_11 hS.2.2.2.2.1 (by first | assumption | exact qm_in8 (by assumption) (by assumption) | exact qm_in8d (by assumption) (by assumption) | decide) ?_
  refine qq_callS (bc := 0) (bs := 0) (mc := 0) (ms := 0) (as := [.long (S.2.1 a.toNatClampNeg), .long (S.2.1 b.toNatClampNeg)]) (rest := []) dX5_compareCells_12 (mt_X1_compare hp (S.2.1 a.toNatClampNeg) (S.2.1 b.toNatClampNeg)) rfl kl_X5_170 ks_X1_compare ki_X1 kc_X1_compare kd_X1_compare rfl (by decide) (by decide) (Nat.le_of_ble_eq_true rfl) (fun v hp' hv _ _ => ?_) (fun E hp' zx _ _ => zx.elim)
  obtain ⟨rfl, rfl⟩ := hv
  show qq_Go _ hp 0 0 15 [(0, .ref 80), (1, .int a), (2, .int b)] [.int (f_X1_compare (S.2.1 a.toNatClampNeg) (S.2.1 b.toNatClampNeg))] _ _
  have ze : r_X5_compareCells a b S = f_X1_compare (S.2.1 a.toNatClampNeg) (S.2.1 b.toNatClampNeg) := by
    rw [r_X5_compareCells]
  exact qq_iret dX5_compareCells_15 rfl rfl ⟨by rw [ze], rfl⟩
def r_X5_quarter (cell : Int32) (q : Int32) (S : sX) : Int32 × sX := ((r_X5_bring cell (f_X2_quarters q) S).1, (r_X5_bring cell (f_X2_quarters q) S).2)
set_option maxRecDepth 4000 in
theorem mt_X5_quarter (hp : qq_H) (S : sX) (hS : cs_X S hp) (cell : Int32) (q : Int32)  : qq_Mt mX5_quarter [.ref 80, .int cell, .int q] hp 2 12 (fun v hp' => v = some (.int ((r_X5_quarter cell q S).1)) ∧ cs_X ((r_X5_quarter cell q S).2) hp' ∧ sm_X hp hp' ∧ (¬ cell < 0 ∧ ¬ 8 ≤ cell) ∧ (¬ q < -160 ∧ ¬ 160 < q)) (fun E hp' => hp = hp' ∧ ((E = "java/lang/IndexOutOfBoundsException" ∧ (cell < 0 ∨ 8 ≤ cell)) ∨ (E = "java/lang/IllegalArgumentException" ∧ (¬ cell < 0 ∧ ¬ 8 ≤ cell) ∧ (q < -160 ∨ 160 < q)))) := by
  refine qq_met pn_X5 (Nat.le_of_ble_eq_true rfl) (Nat.le_of_ble_eq_true rfl) kc_X5_quarter ?_
  show qq_Go _ hp 2 12 0 [(0, .ref 80), (1, .int cell), (2, .int q)] [] _ _
  refine qq_iload_n dX5_quarter_0 rfl 1 rfl ?_
  refine qq_callS (bc := 1) (bs := 6) (mc := 1) (ms := 6) (as := [.int cell]) (rest := []) dX5_quarter_1 (mt_X5_checkCell hp cell ) rfl kl_X5_32 ks_X5_checkCell ki_X5 kc_X5_checkCell kd_X5_checkCell rfl (by decide) (by decide) (Nat.le_of_ble_eq_true rfl) (fun v hp' hv _ _ => ?_) (fun E hp' zx _ _ => by obtain ⟨rfl, rfl, zf⟩ := zx; exact qq_thr rfl ⟨rfl, (Or.inl ⟨rfl, zf⟩)⟩)
  obtain ⟨rfl, rfl, zg1⟩ := hv
  have zg11 := zg1.1
  have zg12 := zg1.2
  show qq_Go _ hp 1 6 4 [(0, .ref 80), (1, .int cell), (2, .int q)] [] _ _
  refine qq_iload_n dX5_quarter_4 rfl 2 rfl ?_
  refine qq_sipush (v := (-160)) dX5_quarter_5 (by decide) ?_
  refine qq_sipush (v := 160) dX5_quarter_8 (by decide) ?_
  refine qq_callS (bc := 0) (bs := 0) (mc := 1) (ms := 6) (as := [.int q, .int (-160), .int 160]) (rest := []) dX5_quarter_11 (mt_X5_checkRange hp q (-160 : Int32) (160 : Int32) ) rfl kl_X5_36 ks_X5_checkRange ki_X5 kc_X5_checkRange kd_X5_checkRange rfl (by decide) (by decide) (Nat.le_of_ble_eq_true rfl) (fun v hp' hv _ _ => ?_) (fun E hp' zx _ _ => by obtain ⟨rfl, rfl, zf⟩ := zx; exact qq_thr rfl ⟨rfl, (Or.inr ⟨rfl, zg1, zf⟩)⟩)
  obtain ⟨rfl, rfl, zg2⟩ := hv
  have zg21 := zg2.1
  have zg22 := zg2.2
  show qq_Go _ hp 0 0 14 [(0, .ref 80), (1, .int cell), (2, .int q)] [] _ _
  refine qq_aload_n dX5_quarter_14 rfl 0 rfl ?_
  refine qq_iload_n dX5_quarter_15 rfl 1 rfl ?_
  refine qq_iload_n dX5_quarter_16 rfl 2 rfl ?_
  refine qq_callS (bc := 0) (bs := 0) (mc := 0) (ms := 0) (as := [.int q]) (rest := [.int cell, .ref 80]) dX5_quarter_17 (mt_X2_quarters hp q) rfl kl_X5_40 ks_X2_quarters ki_X2 kc_X2_quarters kd_X2_quarters rfl (by decide) (by decide) (Nat.le_of_ble_eq_true rfl) (fun v hp' hv _ _ => ?_) (fun E hp' zx _ _ => zx.elim)
  obtain ⟨rfl, rfl⟩ := hv
  show qq_Go _ hp 0 0 20 [(0, .ref 80), (1, .int cell), (2, .int q)] [.int (f_X2_quarters q), .int cell, .ref 80] _ _
  refine qq_callV (bc := 0) (bs := 0) (mc := 0) (ms := 0) (o := 80) (ci := 2) (N := 6) (T := TX5) (as := [.int cell, .int (f_X2_quarters q)]) (rest := []) dX5_quarter_20 hS.2.2.1 (by decide) rfl (mt_X5_bring hp S hS cell (f_X2_quarters q) (by first | assumption | exact ⟨by assumption, by assumption⟩ | exact qm_in8 (by assumption) (by assumption) | exact ⟨by assumption, qm_len (by assumption)⟩ | exact qm_in8d (by assumption) (by assumption) | decide)) rfl kl_X5_44 kn_X5_bring ke_X5_bring ki_X5 kc_X5_bring kd_X5_bring rfl (by decide) (by decide) (Nat.le_of_ble_eq_true rfl) (fun v hp1 hv _ _ => ?_) (fun E hp' zx _ _ => zx.elim)
  obtain ⟨rfl, hS1, sM1⟩ := hv
  show qq_Go _ hp1 0 0 23 [(0, .ref 80), (1, .int cell), (2, .int q)] [.int ((r_X5_bring cell (f_X2_quarters q) S).1)] _ _
  have ze : r_X5_quarter cell q S = ((r_X5_bring cell (f_X2_quarters q) S).1, (r_X5_bring cell (f_X2_quarters q) S).2) := by
    rw [r_X5_quarter]
  exact qq_iret dX5_quarter_23 rfl rfl ⟨by rw [ze], by rw [ze]; exact hS1, sM1, zg1, zg2⟩
def r_X5_zero (cell : Int32) (u : Int32) (S : sX) : Int32 × sX := ((r_X5_bring cell (f_X2_nought u) S).1, (r_X5_bring cell (f_X2_nought u) S).2)
set_option maxRecDepth 4000 in
theorem mt_X5_zero (hp : qq_H) (S : sX) (hS : cs_X S hp) (cell : Int32) (u : Int32)  : qq_Mt mX5_zero [.ref 80, .int cell, .int u] hp 1 6 (fun v hp' => v = some (.int ((r_X5_zero cell u S).1)) ∧ cs_X ((r_X5_zero cell u S).2) hp' ∧ sm_X hp hp' ∧ (¬ cell < 0 ∧ ¬ 8 ≤ cell)) (fun E hp' => hp = hp' ∧ ((E = "java/lang/IndexOutOfBoundsException" ∧ (cell < 0 ∨ 8 ≤ cell)))) := by
  refine qq_met pn_X5 (Nat.le_of_ble_eq_true rfl) (Nat.le_of_ble_eq_true rfl) kc_X5_zero ?_
  show qq_Go _ hp 1 6 0 [(0, .ref 80), (1, .int cell), (2, .int u)] [] _ _
  refine qq_iload_n dX5_zero_0 rfl 1 rfl ?_
  refine qq_callS (bc := 0) (bs := 0) (mc := 1) (ms := 6) (as := [.int cell]) (rest := []) dX5_zero_1 (mt_X5_checkCell hp cell ) rfl kl_X5_32 ks_X5_checkCell ki_X5 kc_X5_checkCell kd_X5_checkCell rfl (by decide) (by decide) (Nat.le_of_ble_eq_true rfl) (fun v hp' hv _ _ => ?_) (fun E hp' zx _ _ => by obtain ⟨rfl, rfl, zf⟩ := zx; exact qq_thr rfl ⟨rfl, ⟨rfl, zf⟩⟩)
  obtain ⟨rfl, rfl, zg1⟩ := hv
  have zg11 := zg1.1
  have zg12 := zg1.2
  show qq_Go _ hp 0 0 4 [(0, .ref 80), (1, .int cell), (2, .int u)] [] _ _
  refine qq_aload_n dX5_zero_4 rfl 0 rfl ?_
  refine qq_iload_n dX5_zero_5 rfl 1 rfl ?_
  refine qq_iload_n dX5_zero_6 rfl 2 rfl ?_
  refine qq_callS (bc := 0) (bs := 0) (mc := 0) (ms := 0) (as := [.int u]) (rest := [.int cell, .ref 80]) dX5_zero_7 (mt_X2_nought hp u) rfl kl_X5_20 ks_X2_nought ki_X2 kc_X2_nought kd_X2_nought rfl (by decide) (by decide) (Nat.le_of_ble_eq_true rfl) (fun v hp' hv _ _ => ?_) (fun E hp' zx _ _ => zx.elim)
  obtain ⟨rfl, rfl⟩ := hv
  show qq_Go _ hp 0 0 10 [(0, .ref 80), (1, .int cell), (2, .int u)] [.int (f_X2_nought u), .int cell, .ref 80] _ _
  refine qq_callV (bc := 0) (bs := 0) (mc := 0) (ms := 0) (o := 80) (ci := 2) (N := 6) (T := TX5) (as := [.int cell, .int (f_X2_nought u)]) (rest := []) dX5_zero_10 hS.2.2.1 (by decide) rfl (mt_X5_bring hp S hS cell (f_X2_nought u) (by first | assumption | exact ⟨by assumption, by assumption⟩ | exact qm_in8 (by assumption) (by assumption) | exact ⟨by assumption, qm_len (by assumption)⟩ | exact qm_in8d (by assumption) (by assumption) | decide)) rfl kl_X5_44 kn_X5_bring ke_X5_bring ki_X5 kc_X5_bring kd_X5_bring rfl (by decide) (by decide) (Nat.le_of_ble_eq_true rfl) (fun v hp1 hv _ _ => ?_) (fun E hp' zx _ _ => zx.elim)
  obtain ⟨rfl, hS1, sM1⟩ := hv
  show qq_Go _ hp1 0 0 13 [(0, .ref 80), (1, .int cell), (2, .int u)] [.int ((r_X5_bring cell (f_X2_nought u) S).1)] _ _
  have ze : r_X5_zero cell u S = ((r_X5_bring cell (f_X2_nought u) S).1, (r_X5_bring cell (f_X2_nought u) S).2) := by
    rw [r_X5_zero]
  exact qq_iret dX5_zero_13 rfl rfl ⟨by rw [ze], by rw [ze]; exact hS1, sM1, zg1⟩
def r_X5_endless (cell : Int32) (u : Int32) (S : sX) : Int32 × sX := ((r_X5_bring cell (f_X2_withoutEnd u) S).1, (r_X5_bring cell (f_X2_withoutEnd u) S).2)
set_option maxRecDepth 4000 in
theorem mt_X5_endless (hp : qq_H) (S : sX) (hS : cs_X S hp) (cell : Int32) (u : Int32)  : qq_Mt mX5_endless [.ref 80, .int cell, .int u] hp 1 6 (fun v hp' => v = some (.int ((r_X5_endless cell u S).1)) ∧ cs_X ((r_X5_endless cell u S).2) hp' ∧ sm_X hp hp' ∧ (¬ cell < 0 ∧ ¬ 8 ≤ cell)) (fun E hp' => hp = hp' ∧ ((E = "java/lang/IndexOutOfBoundsException" ∧ (cell < 0 ∨ 8 ≤ cell)))) := by
  refine qq_met pn_X5 (Nat.le_of_ble_eq_true rfl) (Nat.le_of_ble_eq_true rfl) kc_X5_endless ?_
  show qq_Go _ hp 1 6 0 [(0, .ref 80), (1, .int cell), (2, .int u)] [] _ _
  refine qq_iload_n dX5_endless_0 rfl 1 rfl ?_
  refine qq_callS (bc := 0) (bs := 0) (mc := 1) (ms := 6) (as := [.int cell]) (rest := []) dX5_endless_1 (mt_X5_checkCell hp cell ) rfl kl_X5_32 ks_X5_checkCell ki_X5 kc_X5_checkCell kd_X5_checkCell rfl (by decide) (by decide) (Nat.le_of_ble_eq_true rfl) (fun v hp' hv _ _ => ?_) (fun E hp' zx _ _ => by obtain ⟨rfl, rfl, zf⟩ := zx; exact qq_thr rfl ⟨rfl, ⟨rfl, zf⟩⟩)
  obtain ⟨rfl, rfl, zg1⟩ := hv
  have zg11 := zg1.1
  have zg12 := zg1.2
  show qq_Go _ hp 0 0 4 [(0, .ref 80), (1, .int cell), (2, .int u)] [] _ _
  refine qq_aload_n dX5_endless_4 rfl 0 rfl ?_
  refine qq_iload_n dX5_endless_5 rfl 1 rfl ?_
  refine qq_iload_n dX5_endless_6 rfl 2 rfl ?_
  refine qq_callS (bc := 0) (bs := 0) (mc := 0) (ms := 0) (as := [.int u]) (rest := [.int cell, .ref 80]) dX5_endless_7 (mt_X2_withoutEnd hp u) rfl kl_X5_48 ks_X2_withoutEnd ki_X2 kc_X2_withoutEnd kd_X2_withoutEnd rfl (by decide) (by decide) (Nat.le_of_ble_eq_true rfl) (fun v hp' hv _ _ => ?_) (fun E hp' zx _ _ => zx.elim)
  obtain ⟨rfl, rfl⟩ := hv
  show qq_Go _ hp 0 0 10 [(0, .ref 80), (1, .int cell), (2, .int u)] [.int (f_X2_withoutEnd u), .int cell, .ref 80] _ _
  refine qq_callV (bc := 0) (bs := 0) (mc := 0) (ms := 0) (o := 80) (ci := 2) (N := 6) (T := TX5) (as := [.int cell, .int (f_X2_withoutEnd u)]) (rest := []) dX5_endless_10 hS.2.2.1 (by decide) rfl (mt_X5_bring hp S hS cell (f_X2_withoutEnd u) (by first | assumption | exact ⟨by assumption, by assumption⟩ | exact qm_in8 (by assumption) (by assumption) | exact ⟨by assumption, qm_len (by assumption)⟩ | exact qm_in8d (by assumption) (by assumption) | decide)) rfl kl_X5_44 kn_X5_bring ke_X5_bring ki_X5 kc_X5_bring kd_X5_bring rfl (by decide) (by decide) (Nat.le_of_ble_eq_true rfl) (fun v hp1 hv _ _ => ?_) (fun E hp' zx _ _ => zx.elim)
  obtain ⟨rfl, hS1, sM1⟩ := hv
  show qq_Go _ hp1 0 0 13 [(0, .ref 80), (1, .int cell), (2, .int u)] [.int ((r_X5_bring cell (f_X2_withoutEnd u) S).1)] _ _
  have ze : r_X5_endless cell u S = ((r_X5_bring cell (f_X2_withoutEnd u) S).1, (r_X5_bring cell (f_X2_withoutEnd u) S).2) := by
    rw [r_X5_endless]
  exact qq_iret dX5_endless_13 rfl rfl ⟨by rw [ze], by rw [ze]; exact hS1, sM1, zg1⟩
def r_X5_copy (cell : Int32) (into : Int32) (S : sX) : Int32 × sX := ((r_X5_bring into (S.1 cell.toNatClampNeg) S).1, (r_X5_bring into (S.1 cell.toNatClampNeg) S).2)
set_option maxRecDepth 4000 in
theorem mt_X5_copy (hp : qq_H) (S : sX) (hS : cs_X S hp) (cell : Int32) (into : Int32)  : qq_Mt mX5_copy [.ref 80, .int cell, .int into] hp 2 12 (fun v hp' => v = some (.int ((r_X5_copy cell into S).1)) ∧ cs_X ((r_X5_copy cell into S).2) hp' ∧ sm_X hp hp' ∧ (¬ cell < 0 ∧ ¬ 8 ≤ cell) ∧ (¬ into < 0 ∧ ¬ 8 ≤ into)) (fun E hp' => hp = hp' ∧ ((E = "java/lang/IndexOutOfBoundsException" ∧ (cell < 0 ∨ 8 ≤ cell)) ∨ (E = "java/lang/IndexOutOfBoundsException" ∧ (¬ cell < 0 ∧ ¬ 8 ≤ cell) ∧ (into < 0 ∨ 8 ≤ into)))) := by
  refine qq_met pn_X5 (Nat.le_of_ble_eq_true rfl) (Nat.le_of_ble_eq_true rfl) kc_X5_copy ?_
  show qq_Go _ hp 2 12 0 [(0, .ref 80), (1, .int cell), (2, .int into)] [] _ _
  refine qq_iload_n dX5_copy_0 rfl 1 rfl ?_
  refine qq_callS (bc := 1) (bs := 6) (mc := 1) (ms := 6) (as := [.int cell]) (rest := []) dX5_copy_1 (mt_X5_checkCell hp cell ) rfl kl_X5_32 ks_X5_checkCell ki_X5 kc_X5_checkCell kd_X5_checkCell rfl (by decide) (by decide) (Nat.le_of_ble_eq_true rfl) (fun v hp' hv _ _ => ?_) (fun E hp' zx _ _ => by obtain ⟨rfl, rfl, zf⟩ := zx; exact qq_thr rfl ⟨rfl, (Or.inl ⟨rfl, zf⟩)⟩)
  obtain ⟨rfl, rfl, zg1⟩ := hv
  have zg11 := zg1.1
  have zg12 := zg1.2
  show qq_Go _ hp 1 6 4 [(0, .ref 80), (1, .int cell), (2, .int into)] [] _ _
  refine qq_iload_n dX5_copy_4 rfl 2 rfl ?_
  refine qq_callS (bc := 0) (bs := 0) (mc := 1) (ms := 6) (as := [.int into]) (rest := []) dX5_copy_5 (mt_X5_checkCell hp into ) rfl kl_X5_32 ks_X5_checkCell ki_X5 kc_X5_checkCell kd_X5_checkCell rfl (by decide) (by decide) (Nat.le_of_ble_eq_true rfl) (fun v hp' hv _ _ => ?_) (fun E hp' zx _ _ => by obtain ⟨rfl, rfl, zf⟩ := zx; exact qq_thr rfl ⟨rfl, (Or.inr ⟨rfl, zg1, zf⟩)⟩)
  obtain ⟨rfl, rfl, zg2⟩ := hv
  have zg21 := zg2.1
  have zg22 := zg2.2
  show qq_Go _ hp 0 0 8 [(0, .ref 80), (1, .int cell), (2, .int into)] [] _ _
  refine qq_aload_n dX5_copy_8 rfl 0 rfl ?_
  refine qq_iload_n dX5_copy_9 rfl 2 rfl ?_
  refine qq_aload_n dX5_copy_10 rfl 0 rfl ?_
  refine cx_get hS dX5_copy_11 0 (by decide) rfl kl_X5_9 ?_
  refine qq_iload_n dX5_copy_14 rfl 1 rfl ?_
  refine qq_iald dX5_copy_15 hS.2.2.2.1 (by first | assumption | exact qm_in8 (by assumption) (by assumption) | exact qm_in8d (by assumption) (by assumption) | decide) ?_
  refine qq_callV (bc := 0) (bs := 0) (mc := 0) (ms := 0) (o := 80) (ci := 2) (N := 6) (T := TX5) (as := [.int into, .int (S.1 cell.toNatClampNeg)]) (rest := []) dX5_copy_16 hS.2.2.1 (by decide) rfl (mt_X5_bring hp S hS into (S.1 cell.toNatClampNeg) (by first | assumption | exact ⟨by assumption, by assumption⟩ | exact qm_in8 (by assumption) (by assumption) | exact ⟨by assumption, qm_len (by assumption)⟩ | exact qm_in8d (by assumption) (by assumption) | decide)) rfl kl_X5_44 kn_X5_bring ke_X5_bring ki_X5 kc_X5_bring kd_X5_bring rfl (by decide) (by decide) (Nat.le_of_ble_eq_true rfl) (fun v hp1 hv _ _ => ?_) (fun E hp' zx _ _ => zx.elim)
  obtain ⟨rfl, hS1, sM1⟩ := hv
  show qq_Go _ hp1 0 0 19 [(0, .ref 80), (1, .int cell), (2, .int into)] [.int ((r_X5_bring into (S.1 cell.toNatClampNeg) S).1)] _ _
  have ze : r_X5_copy cell into S = ((r_X5_bring into (S.1 cell.toNatClampNeg) S).1, (r_X5_bring into (S.1 cell.toNatClampNeg) S).2) := by
    rw [r_X5_copy]
  exact qq_iret dX5_copy_19 rfl rfl ⟨by rw [ze], by rw [ze]; exact hS1, sM1, zg1, zg2⟩
def r_X5_swap (cell : Int32) (other : Int32) (S : sX) : Int32 × sX := ((r_X5_bring other (S.1 cell.toNatClampNeg) (r_X5_place cell (S.1 other.toNatClampNeg) S)).1, (r_X5_bring other (S.1 cell.toNatClampNeg) (r_X5_place cell (S.1 other.toNatClampNeg) S)).2)
set_option maxRecDepth 4000 in
theorem mt_X5_swap (hp : qq_H) (S : sX) (hS : cs_X S hp) (cell : Int32) (other : Int32)  : qq_Mt mX5_swap [.ref 80, .int cell, .int other] hp 2 12 (fun v hp' => v = some (.int ((r_X5_swap cell other S).1)) ∧ cs_X ((r_X5_swap cell other S).2) hp' ∧ sm_X hp hp' ∧ (¬ cell < 0 ∧ ¬ 8 ≤ cell) ∧ (¬ other < 0 ∧ ¬ 8 ≤ other)) (fun E hp' => hp = hp' ∧ ((E = "java/lang/IndexOutOfBoundsException" ∧ (cell < 0 ∨ 8 ≤ cell)) ∨ (E = "java/lang/IndexOutOfBoundsException" ∧ (¬ cell < 0 ∧ ¬ 8 ≤ cell) ∧ (other < 0 ∨ 8 ≤ other)))) := by
  refine qq_met pn_X5 (Nat.le_of_ble_eq_true rfl) (Nat.le_of_ble_eq_true rfl) kc_X5_swap ?_
  show qq_Go _ hp 2 12 0 [(0, .ref 80), (1, .int cell), (2, .int other)] [] _ _
  refine qq_iload_n dX5_swap_0 rfl 1 rfl ?_
  refine qq_callS (bc := 1) (bs := 6) (mc := 1) (ms := 6) (as := [.int cell]) (rest := []) dX5_swap_1 (mt_X5_checkCell hp cell ) rfl kl_X5_32 ks_X5_checkCell ki_X5 kc_X5_checkCell kd_X5_checkCell rfl (by decide) (by decide) (Nat.le_of_ble_eq_true rfl) (fun v hp' hv _ _ => ?_) (fun E hp' zx _ _ => by obtain ⟨rfl, rfl, zf⟩ := zx; exact qq_thr rfl ⟨rfl, (Or.inl ⟨rfl, zf⟩)⟩)
  obtain ⟨rfl, rfl, zg1⟩ := hv
  have zg11 := zg1.1
  have zg12 := zg1.2
  show qq_Go _ hp 1 6 4 [(0, .ref 80), (1, .int cell), (2, .int other)] [] _ _
  refine qq_iload_n dX5_swap_4 rfl 2 rfl ?_
  refine qq_callS (bc := 0) (bs := 0) (mc := 1) (ms := 6) (as := [.int other]) (rest := []) dX5_swap_5 (mt_X5_checkCell hp other ) rfl kl_X5_32 ks_X5_checkCell ki_X5 kc_X5_checkCell kd_X5_checkCell rfl (by decide) (by decide) (Nat.le_of_ble_eq_true rfl) (fun v hp' hv _ _ => ?_) (fun E hp' zx _ _ => by obtain ⟨rfl, rfl, zf⟩ := zx; exact qq_thr rfl ⟨rfl, (Or.inr ⟨rfl, zg1, zf⟩)⟩)
  obtain ⟨rfl, rfl, zg2⟩ := hv
  have zg21 := zg2.1
  have zg22 := zg2.2
  show qq_Go _ hp 0 0 8 [(0, .ref 80), (1, .int cell), (2, .int other)] [] _ _
  refine qq_aload_n dX5_swap_8 rfl 0 rfl ?_
  refine cx_get hS dX5_swap_9 0 (by decide) rfl kl_X5_9 ?_
  refine qq_iload_n dX5_swap_12 rfl 1 rfl ?_
  refine qq_iald dX5_swap_13 hS.2.2.2.1 (by first | assumption | exact qm_in8 (by assumption) (by assumption) | exact qm_in8d (by assumption) (by assumption) | decide) ?_
  refine qq_istore_n (loc' := [(0, .ref 80), (1, .int cell), (2, .int other), (3, .int (S.1 cell.toNatClampNeg))]) dX5_swap_14 rfl [1, 2, 3, 0] (Nat.le_of_ble_eq_true rfl) rfl ?_
  refine qq_aload_n dX5_swap_15 rfl 0 rfl ?_
  refine qq_iload_n dX5_swap_16 rfl 1 rfl ?_
  refine qq_aload_n dX5_swap_17 rfl 0 rfl ?_
  refine cx_get hS dX5_swap_18 0 (by decide) rfl kl_X5_9 ?_
  refine qq_iload_n dX5_swap_21 rfl 2 rfl ?_
  refine qq_iald dX5_swap_22 hS.2.2.2.1 (by first | assumption | exact qm_in8 (by assumption) (by assumption) | exact qm_in8d (by assumption) (by assumption) | decide) ?_
  refine qq_callV (bc := 0) (bs := 0) (mc := 0) (ms := 0) (o := 80) (ci := 2) (N := 6) (T := TX5) (as := [.int cell, .int (S.1 other.toNatClampNeg)]) (rest := []) dX5_swap_23 hS.2.2.1 (by decide) rfl (mt_X5_place hp S hS cell (S.1 other.toNatClampNeg) (by first | assumption | exact ⟨by assumption, by assumption⟩ | exact qm_in8 (by assumption) (by assumption) | exact ⟨by assumption, qm_len (by assumption)⟩ | exact qm_in8d (by assumption) (by assumption) | decide)) rfl kl_X5_62 kn_X5_place ke_X5_place ki_X5 kc_X5_place kd_X5_place rfl (by decide) (by decide) (Nat.le_of_ble_eq_true rfl) (fun v hp1 hv _ _ => ?_) (fun E hp' zx _ _ => zx.elim)
  obtain ⟨rfl, hS1, sM1⟩ := hv
  show qq_Go _ hp1 0 0 26 [(0, .ref 80), (1, .int cell), (2, .int other), (3, .int (S.1 cell.toNatClampNeg))] [] _ _
  refine qq_aload_n dX5_swap_26 rfl 0 rfl ?_
  refine qq_iload_n dX5_swap_27 rfl 2 rfl ?_
  refine qq_iload_n dX5_swap_28 rfl 3 rfl ?_
  refine qq_callV (bc := 0) (bs := 0) (mc := 0) (ms := 0) (o := 80) (ci := 2) (N := 6) (T := TX5) (as := [.int other, .int (S.1 cell.toNatClampNeg)]) (rest := []) dX5_swap_29 hS1.2.2.1 (by decide) rfl (mt_X5_bring hp1 (r_X5_place cell (S.1 other.toNatClampNeg) S) hS1 other (S.1 cell.toNatClampNeg) (by first | assumption | exact ⟨by assumption, by assumption⟩ | exact qm_in8 (by assumption) (by assumption) | exact ⟨by assumption, qm_len (by assumption)⟩ | exact qm_in8d (by assumption) (by assumption) | decide)) rfl kl_X5_44 kn_X5_bring ke_X5_bring ki_X5 kc_X5_bring kd_X5_bring rfl (by decide) (by decide) (Nat.le_of_ble_eq_true rfl) (fun v hp2 hv _ _ => ?_) (fun E hp' zx _ _ => zx.elim)
  obtain ⟨rfl, hS2, sM2⟩ := hv
  show qq_Go _ hp2 0 0 32 [(0, .ref 80), (1, .int cell), (2, .int other), (3, .int (S.1 cell.toNatClampNeg))] [.int ((r_X5_bring other (S.1 cell.toNatClampNeg) (r_X5_place cell (S.1 other.toNatClampNeg) S)).1)] _ _
  have ze : r_X5_swap cell other S = ((r_X5_bring other (S.1 cell.toNatClampNeg) (r_X5_place cell (S.1 other.toNatClampNeg) S)).1, (r_X5_bring other (S.1 cell.toNatClampNeg) (r_X5_place cell (S.1 other.toNatClampNeg) S)).2) := by
    rw [r_X5_swap]
  exact qq_iret dX5_swap_32 rfl rfl ⟨by rw [ze], by rw [ze]; exact hS2, (sm_t sM1 sM2), zg1, zg2⟩
def r_X5_step (cell : Int32) (by9 : Int32) (S : sX) : Int32 × sX := if (f_X2_kindOf (S.1 cell.toNatClampNeg)) = 0 then if (f_X2_canBeQuarter ((f_X2_qOf (S.1 cell.toNatClampNeg)) + by9)) = 0 then ((r_X5_refuse S).1, (r_X5_refuse S).2) else ((r_X5_bring cell (f_X2_quarters ((f_X2_qOf (S.1 cell.toNatClampNeg)) + by9)) S).1, (r_X5_bring cell (f_X2_quarters ((f_X2_qOf (S.1 cell.toNatClampNeg)) + by9)) S).2) else ((r_X5_refuse S).1, (r_X5_refuse S).2)
set_option maxRecDepth 4000 in
theorem mt_X5_step (hp : qq_H) (S : sX) (hS : cs_X S hp) (cell : Int32) (by9 : Int32)  : qq_Mt mX5_step [.ref 80, .int cell, .int by9] hp 2 12 (fun v hp' => v = some (.int ((r_X5_step cell by9 S).1)) ∧ cs_X ((r_X5_step cell by9 S).2) hp' ∧ sm_X hp hp' ∧ (¬ cell < 0 ∧ ¬ 8 ≤ cell) ∧ (¬ by9 < -320 ∧ ¬ 320 < by9)) (fun E hp' => hp = hp' ∧ ((E = "java/lang/IndexOutOfBoundsException" ∧ (cell < 0 ∨ 8 ≤ cell)) ∨ (E = "java/lang/IllegalArgumentException" ∧ (¬ cell < 0 ∧ ¬ 8 ≤ cell) ∧ (by9 < -320 ∨ 320 < by9)))) := by
  refine qq_met pn_X5 (Nat.le_of_ble_eq_true rfl) (Nat.le_of_ble_eq_true rfl) kc_X5_step ?_
  show qq_Go _ hp 2 12 0 [(0, .ref 80), (1, .int cell), (2, .int by9)] [] _ _
  refine qq_iload_n dX5_step_0 rfl 1 rfl ?_
  refine qq_callS (bc := 1) (bs := 6) (mc := 1) (ms := 6) (as := [.int cell]) (rest := []) dX5_step_1 (mt_X5_checkCell hp cell ) rfl kl_X5_32 ks_X5_checkCell ki_X5 kc_X5_checkCell kd_X5_checkCell rfl (by decide) (by decide) (Nat.le_of_ble_eq_true rfl) (fun v hp' hv _ _ => ?_) (fun E hp' zx _ _ => by obtain ⟨rfl, rfl, zf⟩ := zx; exact qq_thr rfl ⟨rfl, (Or.inl ⟨rfl, zf⟩)⟩)
  obtain ⟨rfl, rfl, zg1⟩ := hv
  have zg11 := zg1.1
  have zg12 := zg1.2
  show qq_Go _ hp 1 6 4 [(0, .ref 80), (1, .int cell), (2, .int by9)] [] _ _
  refine qq_iload_n dX5_step_4 rfl 2 rfl ?_
  refine qq_sipush (v := (-320)) dX5_step_5 (by decide) ?_
  refine qq_sipush (v := 320) dX5_step_8 (by decide) ?_
  refine qq_callS (bc := 0) (bs := 0) (mc := 1) (ms := 6) (as := [.int by9, .int (-320), .int 320]) (rest := []) dX5_step_11 (mt_X5_checkRange hp by9 (-320 : Int32) (320 : Int32) ) rfl kl_X5_36 ks_X5_checkRange ki_X5 kc_X5_checkRange kd_X5_checkRange rfl (by decide) (by decide) (Nat.le_of_ble_eq_true rfl) (fun v hp' hv _ _ => ?_) (fun E hp' zx _ _ => by obtain ⟨rfl, rfl, zf⟩ := zx; exact qq_thr rfl ⟨rfl, (Or.inr ⟨rfl, zg1, zf⟩)⟩)
  obtain ⟨rfl, rfl, zg2⟩ := hv
  have zg21 := zg2.1
  have zg22 := zg2.2
  show qq_Go _ hp 0 0 14 [(0, .ref 80), (1, .int cell), (2, .int by9)] [] _ _
  refine qq_aload_n dX5_step_14 rfl 0 rfl ?_
  refine cx_get hS dX5_step_15 0 (by decide) rfl kl_X5_9 ?_
  refine qq_iload_n dX5_step_18 rfl 1 rfl ?_
  refine qq_iald dX5_step_19 hS.2.2.2.1 (by first | assumption | exact qm_in8 (by assumption) (by assumption) | exact qm_in8d (by assumption) (by assumption) | decide) ?_
  refine qq_callS (bc := 0) (bs := 0) (mc := 0) (ms := 0) (as := [.int (S.1 cell.toNatClampNeg)]) (rest := []) dX5_step_20 (mt_X2_qOf hp (S.1 cell.toNatClampNeg)) rfl kl_X5_72 ks_X2_qOf ki_X2 kc_X2_qOf kd_X2_qOf rfl (by decide) (by decide) (Nat.le_of_ble_eq_true rfl) (fun v hp' hv _ _ => ?_) (fun E hp' zx _ _ => zx.elim)
  obtain ⟨rfl, rfl⟩ := hv
  show qq_Go _ hp 0 0 23 [(0, .ref 80), (1, .int cell), (2, .int by9)] [.int (f_X2_qOf (S.1 cell.toNatClampNeg))] _ _
  refine qq_iload_n dX5_step_23 rfl 2 rfl ?_
  refine qq_iadd dX5_step_24 ?_
  refine qq_istore_n (loc' := [(0, .ref 80), (1, .int cell), (2, .int by9), (3, .int ((f_X2_qOf (S.1 cell.toNatClampNeg)) + by9))]) dX5_step_25 rfl [1, 2, 3, 0] (Nat.le_of_ble_eq_true rfl) rfl ?_
  refine qq_aload_n dX5_step_26 rfl 0 rfl ?_
  refine cx_get hS dX5_step_27 0 (by decide) rfl kl_X5_9 ?_
  refine qq_iload_n dX5_step_30 rfl 1 rfl ?_
  refine qq_iald dX5_step_31 hS.2.2.2.1 (by first | assumption | exact qm_in8 (by assumption) (by assumption) | exact qm_in8d (by assumption) (by assumption) | decide) ?_
  refine qq_callS (bc := 0) (bs := 0) (mc := 0) (ms := 0) (as := [.int (S.1 cell.toNatClampNeg)]) (rest := []) dX5_step_32 (mt_X2_kindOf hp (S.1 cell.toNatClampNeg)) rfl kl_X5_75 ks_X2_kindOf ki_X2 kc_X2_kindOf kd_X2_kindOf rfl (by decide) (by decide) (Nat.le_of_ble_eq_true rfl) (fun v hp' hv _ _ => ?_) (fun E hp' zx _ _ => zx.elim)
  obtain ⟨rfl, rfl⟩ := hv
  show qq_Go _ hp 0 0 35 [(0, .ref 80), (1, .int cell), (2, .int by9), (3, .int ((f_X2_qOf (S.1 cell.toNatClampNeg)) + by9))] [.int (f_X2_kindOf (S.1 cell.toNatClampNeg))] _ _
  refine qq_if_ne (tgt := 45) dX5_step_35 (by decide) (fun zc1 => ?_) (fun zc1 => ?_)
  · refine qq_aload_n dX5_step_45 rfl 0 rfl ?_
    refine qq_callV (bc := 0) (bs := 0) (mc := 0) (ms := 0) (o := 80) (ci := 2) (N := 6) (T := TX5) (as := []) (rest := []) dX5_step_46 hS.2.2.1 (by decide) rfl (mt_X5_refuse hp S hS ) rfl kl_X5_55 kn_X5_refuse ke_X5_refuse ki_X5 kc_X5_refuse kd_X5_refuse rfl (by decide) (by decide) (Nat.le_of_ble_eq_true rfl) (fun v hp1 hv _ _ => ?_) (fun E hp' zx _ _ => zx.elim)
    obtain ⟨rfl, hS1, sM1⟩ := hv
    show qq_Go _ hp1 0 0 49 [(0, .ref 80), (1, .int cell), (2, .int by9), (3, .int ((f_X2_qOf (S.1 cell.toNatClampNeg)) + by9))] [.int ((r_X5_refuse S).1)] _ _
    have ze : r_X5_step cell by9 S = ((r_X5_refuse S).1, (r_X5_refuse S).2) := by
      rw [r_X5_step, if_neg zc1]
    exact qq_iret dX5_step_49 rfl rfl ⟨by rw [ze], by rw [ze]; exact hS1, sM1, zg1, zg2⟩
  · refine qq_iload_n dX5_step_38 rfl 3 rfl ?_
    refine qq_callS (bc := 0) (bs := 0) (mc := 0) (ms := 0) (as := [.int ((f_X2_qOf (S.1 cell.toNatClampNeg)) + by9)]) (rest := []) dX5_step_39 (mt_X2_canBeQuarter hp ((f_X2_qOf (S.1 cell.toNatClampNeg)) + by9)) rfl kl_X5_51 ks_X2_canBeQuarter ki_X2 kc_X2_canBeQuarter kd_X2_canBeQuarter rfl (by decide) (by decide) (Nat.le_of_ble_eq_true rfl) (fun v hp' hv _ _ => ?_) (fun E hp' zx _ _ => zx.elim)
    obtain ⟨rfl, rfl⟩ := hv
    show qq_Go _ hp 0 0 42 [(0, .ref 80), (1, .int cell), (2, .int by9), (3, .int ((f_X2_qOf (S.1 cell.toNatClampNeg)) + by9))] [.int (f_X2_canBeQuarter ((f_X2_qOf (S.1 cell.toNatClampNeg)) + by9))] _ _
    refine qq_if_ne (tgt := 50) dX5_step_42 (by decide) (fun zc2 => ?_) (fun zc2 => ?_)
    · refine qq_aload_n dX5_step_50 rfl 0 rfl ?_
      refine qq_iload_n dX5_step_51 rfl 1 rfl ?_
      refine qq_iload_n dX5_step_52 rfl 3 rfl ?_
      refine qq_callS (bc := 0) (bs := 0) (mc := 0) (ms := 0) (as := [.int ((f_X2_qOf (S.1 cell.toNatClampNeg)) + by9)]) (rest := [.int cell, .ref 80]) dX5_step_53 (mt_X2_quarters hp ((f_X2_qOf (S.1 cell.toNatClampNeg)) + by9)) rfl kl_X5_40 ks_X2_quarters ki_X2 kc_X2_quarters kd_X2_quarters rfl (by decide) (by decide) (Nat.le_of_ble_eq_true rfl) (fun v hp' hv _ _ => ?_) (fun E hp' zx _ _ => zx.elim)
      obtain ⟨rfl, rfl⟩ := hv
      show qq_Go _ hp 0 0 56 [(0, .ref 80), (1, .int cell), (2, .int by9), (3, .int ((f_X2_qOf (S.1 cell.toNatClampNeg)) + by9))] [.int (f_X2_quarters ((f_X2_qOf (S.1 cell.toNatClampNeg)) + by9)), .int cell, .ref 80] _ _
      refine qq_callV (bc := 0) (bs := 0) (mc := 0) (ms := 0) (o := 80) (ci := 2) (N := 6) (T := TX5) (as := [.int cell, .int (f_X2_quarters ((f_X2_qOf (S.1 cell.toNatClampNeg)) + by9))]) (rest := []) dX5_step_56 hS.2.2.1 (by decide) rfl (mt_X5_bring hp S hS cell (f_X2_quarters ((f_X2_qOf (S.1 cell.toNatClampNeg)) + by9)) (by first | assumption | exact ⟨by assumption, by assumption⟩ | exact qm_in8 (by assumption) (by assumption) | exact ⟨by assumption, qm_len (by assumption)⟩ | exact qm_in8d (by assumption) (by assumption) | decide)) rfl kl_X5_44 kn_X5_bring ke_X5_bring ki_X5 kc_X5_bring kd_X5_bring rfl (by decide) (by decide) (Nat.le_of_ble_eq_true rfl) (fun v hp2 hv _ _ => ?_) (fun E hp' zx _ _ => zx.elim)
      obtain ⟨rfl, hS2, sM2⟩ := hv
      show qq_Go _ hp2 0 0 59 [(0, .ref 80), (1, .int cell), (2, .int by9), (3, .int ((f_X2_qOf (S.1 cell.toNatClampNeg)) + by9))] [.int ((r_X5_bring cell (f_X2_quarters ((f_X2_qOf (S.1 cell.toNatClampNeg)) + by9)) S).1)] _ _
      have ze : r_X5_step cell by9 S = ((r_X5_bring cell (f_X2_quarters ((f_X2_qOf (S.1 cell.toNatClampNeg)) + by9)) S).1, (r_X5_bring cell (f_X2_quarters ((f_X2_qOf (S.1 cell.toNatClampNeg)) + by9)) S).2) := by
        rw [r_X5_step, if_pos zc1, if_neg zc2]
      exact qq_iret dX5_step_59 rfl rfl ⟨by rw [ze], by rw [ze]; exact hS2, sM2, zg1, zg2⟩
    · refine qq_aload_n dX5_step_45 rfl 0 rfl ?_
      refine qq_callV (bc := 0) (bs := 0) (mc := 0) (ms := 0) (o := 80) (ci := 2) (N := 6) (T := TX5) (as := []) (rest := []) dX5_step_46 hS.2.2.1 (by decide) rfl (mt_X5_refuse hp S hS ) rfl kl_X5_55 kn_X5_refuse ke_X5_refuse ki_X5 kc_X5_refuse kd_X5_refuse rfl (by decide) (by decide) (Nat.le_of_ble_eq_true rfl) (fun v hp3 hv _ _ => ?_) (fun E hp' zx _ _ => zx.elim)
      obtain ⟨rfl, hS3, sM3⟩ := hv
      show qq_Go _ hp3 0 0 49 [(0, .ref 80), (1, .int cell), (2, .int by9), (3, .int ((f_X2_qOf (S.1 cell.toNatClampNeg)) + by9))] [.int ((r_X5_refuse S).1)] _ _
      have ze : r_X5_step cell by9 S = ((r_X5_refuse S).1, (r_X5_refuse S).2) := by
        rw [r_X5_step, if_pos zc1, if_pos zc2]
      exact qq_iret dX5_step_49 rfl rfl ⟨by rw [ze], by rw [ze]; exact hS3, sM3, zg1, zg2⟩
def r_X5_turn (cell : Int32) (S : sX) : Int32 × sX := if (f_X2_kindOf (S.1 cell.toNatClampNeg)) = 0 then ((r_X5_bring cell (f_X2_turned (S.1 cell.toNatClampNeg)) S).1, (r_X5_bring cell (f_X2_turned (S.1 cell.toNatClampNeg)) S).2) else if (f_X2_kindOf (S.1 cell.toNatClampNeg)) = 1 then ((r_X5_bring cell (f_X2_turned (S.1 cell.toNatClampNeg)) S).1, (r_X5_bring cell (f_X2_turned (S.1 cell.toNatClampNeg)) S).2) else ((r_X5_refuse S).1, (r_X5_refuse S).2)
set_option maxRecDepth 4000 in
theorem mt_X5_turn (hp : qq_H) (S : sX) (hS : cs_X S hp) (cell : Int32)  : qq_Mt mX5_turn [.ref 80, .int cell] hp 1 6 (fun v hp' => v = some (.int ((r_X5_turn cell S).1)) ∧ cs_X ((r_X5_turn cell S).2) hp' ∧ sm_X hp hp' ∧ (¬ cell < 0 ∧ ¬ 8 ≤ cell)) (fun E hp' => hp = hp' ∧ ((E = "java/lang/IndexOutOfBoundsException" ∧ (cell < 0 ∨ 8 ≤ cell)))) := by
  refine qq_met pn_X5 (Nat.le_of_ble_eq_true rfl) (Nat.le_of_ble_eq_true rfl) kc_X5_turn ?_
  show qq_Go _ hp 1 6 0 [(0, .ref 80), (1, .int cell)] [] _ _
  refine qq_iload_n dX5_turn_0 rfl 1 rfl ?_
  refine qq_callS (bc := 0) (bs := 0) (mc := 1) (ms := 6) (as := [.int cell]) (rest := []) dX5_turn_1 (mt_X5_checkCell hp cell ) rfl kl_X5_32 ks_X5_checkCell ki_X5 kc_X5_checkCell kd_X5_checkCell rfl (by decide) (by decide) (Nat.le_of_ble_eq_true rfl) (fun v hp' hv _ _ => ?_) (fun E hp' zx _ _ => by obtain ⟨rfl, rfl, zf⟩ := zx; exact qq_thr rfl ⟨rfl, ⟨rfl, zf⟩⟩)
  obtain ⟨rfl, rfl, zg1⟩ := hv
  have zg11 := zg1.1
  have zg12 := zg1.2
  show qq_Go _ hp 0 0 4 [(0, .ref 80), (1, .int cell)] [] _ _
  refine qq_aload_n dX5_turn_4 rfl 0 rfl ?_
  refine cx_get hS dX5_turn_5 0 (by decide) rfl kl_X5_9 ?_
  refine qq_iload_n dX5_turn_8 rfl 1 rfl ?_
  refine qq_iald dX5_turn_9 hS.2.2.2.1 (by first | assumption | exact qm_in8 (by assumption) (by assumption) | exact qm_in8d (by assumption) (by assumption) | decide) ?_
  refine qq_callS (bc := 0) (bs := 0) (mc := 0) (ms := 0) (as := [.int (S.1 cell.toNatClampNeg)]) (rest := []) dX5_turn_10 (mt_X2_kindOf hp (S.1 cell.toNatClampNeg)) rfl kl_X5_75 ks_X2_kindOf ki_X2 kc_X2_kindOf kd_X2_kindOf rfl (by decide) (by decide) (Nat.le_of_ble_eq_true rfl) (fun v hp' hv _ _ => ?_) (fun E hp' zx _ _ => zx.elim)
  obtain ⟨rfl, rfl⟩ := hv
  show qq_Go _ hp 0 0 13 [(0, .ref 80), (1, .int cell)] [.int (f_X2_kindOf (S.1 cell.toNatClampNeg))] _ _
  refine qq_istore_n (loc' := [(0, .ref 80), (1, .int cell), (2, .int (f_X2_kindOf (S.1 cell.toNatClampNeg)))]) dX5_turn_13 rfl [1, 2, 0] (Nat.le_of_ble_eq_true rfl) rfl ?_
  refine qq_iload_n dX5_turn_14 rfl 2 rfl ?_
  refine qq_if_eq (tgt := 28) dX5_turn_15 (by decide) (fun zc1 => ?_) (fun zc1 => ?_)
  · refine qq_aload_n dX5_turn_28 rfl 0 rfl ?_
    refine qq_iload_n dX5_turn_29 rfl 1 rfl ?_
    refine qq_aload_n dX5_turn_30 rfl 0 rfl ?_
    refine cx_get hS dX5_turn_31 0 (by decide) rfl kl_X5_9 ?_
    refine qq_iload_n dX5_turn_34 rfl 1 rfl ?_
    refine qq_iald dX5_turn_35 hS.2.2.2.1 (by first | assumption | exact qm_in8 (by assumption) (by assumption) | exact qm_in8d (by assumption) (by assumption) | decide) ?_
    refine qq_callS (bc := 0) (bs := 0) (mc := 0) (ms := 0) (as := [.int (S.1 cell.toNatClampNeg)]) (rest := [.int cell, .ref 80]) dX5_turn_36 (mt_X2_turned hp (S.1 cell.toNatClampNeg)) rfl kl_X5_78 ks_X2_turned ki_X2 kc_X2_turned kd_X2_turned rfl (by decide) (by decide) (Nat.le_of_ble_eq_true rfl) (fun v hp' hv _ _ => ?_) (fun E hp' zx _ _ => zx.elim)
    obtain ⟨rfl, rfl⟩ := hv
    show qq_Go _ hp 0 0 39 [(0, .ref 80), (1, .int cell), (2, .int (f_X2_kindOf (S.1 cell.toNatClampNeg)))] [.int (f_X2_turned (S.1 cell.toNatClampNeg)), .int cell, .ref 80] _ _
    refine qq_callV (bc := 0) (bs := 0) (mc := 0) (ms := 0) (o := 80) (ci := 2) (N := 6) (T := TX5) (as := [.int cell, .int (f_X2_turned (S.1 cell.toNatClampNeg))]) (rest := []) dX5_turn_39 hS.2.2.1 (by decide) rfl (mt_X5_bring hp S hS cell (f_X2_turned (S.1 cell.toNatClampNeg)) (by first | assumption | exact ⟨by assumption, by assumption⟩ | exact qm_in8 (by assumption) (by assumption) | exact ⟨by assumption, qm_len (by assumption)⟩ | exact qm_in8d (by assumption) (by assumption) | decide)) rfl kl_X5_44 kn_X5_bring ke_X5_bring ki_X5 kc_X5_bring kd_X5_bring rfl (by decide) (by decide) (Nat.le_of_ble_eq_true rfl) (fun v hp1 hv _ _ => ?_) (fun E hp' zx _ _ => zx.elim)
    obtain ⟨rfl, hS1, sM1⟩ := hv
    show qq_Go _ hp1 0 0 42 [(0, .ref 80), (1, .int cell), (2, .int (f_X2_kindOf (S.1 cell.toNatClampNeg)))] [.int ((r_X5_bring cell (f_X2_turned (S.1 cell.toNatClampNeg)) S).1)] _ _
    have ze : r_X5_turn cell S = ((r_X5_bring cell (f_X2_turned (S.1 cell.toNatClampNeg)) S).1, (r_X5_bring cell (f_X2_turned (S.1 cell.toNatClampNeg)) S).2) := by
      rw [r_X5_turn, if_pos zc1]
    exact qq_iret dX5_turn_42 rfl rfl ⟨by rw [ze], by rw [ze]; exact hS1, sM1, zg1⟩
  · refine qq_iload_n dX5_turn_18 rfl 2 rfl ?_
    refine qq_iconst (v := 1) dX5_turn_19 (by decide) ?_
    refine qq_icmp_eq (tgt := 28) dX5_turn_20 (by decide) (fun zc2 => ?_) (fun zc2 => ?_)
    · refine qq_aload_n dX5_turn_28 rfl 0 rfl ?_
      refine qq_iload_n dX5_turn_29 rfl 1 rfl ?_
      refine qq_aload_n dX5_turn_30 rfl 0 rfl ?_
      refine cx_get hS dX5_turn_31 0 (by decide) rfl kl_X5_9 ?_
      refine qq_iload_n dX5_turn_34 rfl 1 rfl ?_
      refine qq_iald dX5_turn_35 hS.2.2.2.1 (by first | assumption | exact qm_in8 (by assumption) (by assumption) | exact qm_in8d (by assumption) (by assumption) | decide) ?_
      refine qq_callS (bc := 0) (bs := 0) (mc := 0) (ms := 0) (as := [.int (S.1 cell.toNatClampNeg)]) (rest := [.int cell, .ref 80]) dX5_turn_36 (mt_X2_turned hp (S.1 cell.toNatClampNeg)) rfl kl_X5_78 ks_X2_turned ki_X2 kc_X2_turned kd_X2_turned rfl (by decide) (by decide) (Nat.le_of_ble_eq_true rfl) (fun v hp' hv _ _ => ?_) (fun E hp' zx _ _ => zx.elim)
      obtain ⟨rfl, rfl⟩ := hv
      show qq_Go _ hp 0 0 39 [(0, .ref 80), (1, .int cell), (2, .int (f_X2_kindOf (S.1 cell.toNatClampNeg)))] [.int (f_X2_turned (S.1 cell.toNatClampNeg)), .int cell, .ref 80] _ _
      refine qq_callV (bc := 0) (bs := 0) (mc := 0) (ms := 0) (o := 80) (ci := 2) (N := 6) (T := TX5) (as := [.int cell, .int (f_X2_turned (S.1 cell.toNatClampNeg))]) (rest := []) dX5_turn_39 hS.2.2.1 (by decide) rfl (mt_X5_bring hp S hS cell (f_X2_turned (S.1 cell.toNatClampNeg)) (by first | assumption | exact ⟨by assumption, by assumption⟩ | exact qm_in8 (by assumption) (by assumption) | exact ⟨by assumption, qm_len (by assumption)⟩ | exact qm_in8d (by assumption) (by assumption) | decide)) rfl kl_X5_44 kn_X5_bring ke_X5_bring ki_X5 kc_X5_bring kd_X5_bring rfl (by decide) (by decide) (Nat.le_of_ble_eq_true rfl) (fun v hp2 hv _ _ => ?_) (fun E hp' zx _ _ => zx.elim)
      obtain ⟨rfl, hS2, sM2⟩ := hv
      show qq_Go _ hp2 0 0 42 [(0, .ref 80), (1, .int cell), (2, .int (f_X2_kindOf (S.1 cell.toNatClampNeg)))] [.int ((r_X5_bring cell (f_X2_turned (S.1 cell.toNatClampNeg)) S).1)] _ _
      have ze : r_X5_turn cell S = ((r_X5_bring cell (f_X2_turned (S.1 cell.toNatClampNeg)) S).1, (r_X5_bring cell (f_X2_turned (S.1 cell.toNatClampNeg)) S).2) := by
        rw [r_X5_turn, if_neg zc1, if_pos zc2]
      exact qq_iret dX5_turn_42 rfl rfl ⟨by rw [ze], by rw [ze]; exact hS2, sM2, zg1⟩
    · refine qq_aload_n dX5_turn_23 rfl 0 rfl ?_
      refine qq_callV (bc := 0) (bs := 0) (mc := 0) (ms := 0) (o := 80) (ci := 2) (N := 6) (T := TX5) (as := []) (rest := []) dX5_turn_24 hS.2.2.1 (by decide) rfl (mt_X5_refuse hp S hS ) rfl kl_X5_55 kn_X5_refuse ke_X5_refuse ki_X5 kc_X5_refuse kd_X5_refuse rfl (by decide) (by decide) (Nat.le_of_ble_eq_true rfl) (fun v hp3 hv _ _ => ?_) (fun E hp' zx _ _ => zx.elim)
      obtain ⟨rfl, hS3, sM3⟩ := hv
      show qq_Go _ hp3 0 0 27 [(0, .ref 80), (1, .int cell), (2, .int (f_X2_kindOf (S.1 cell.toNatClampNeg)))] [.int ((r_X5_refuse S).1)] _ _
      have ze : r_X5_turn cell S = ((r_X5_refuse S).1, (r_X5_refuse S).2) := by
        rw [r_X5_turn, if_neg zc1, if_neg zc2]
      exact qq_iret dX5_turn_27 rfl rfl ⟨by rw [ze], by rw [ze]; exact hS3, sM3, zg1⟩
def r_X5_bringChanged (how : Int32) (cell : Int32) (into : Int32) (S : sX) : Int32 × sX := if (f_X0_change how (S.1 cell.toNatClampNeg)) = (-1) then ((r_X5_refuse S).1, (r_X5_refuse S).2) else ((r_X5_bring into (f_X0_change how (S.1 cell.toNatClampNeg)) S).1, (r_X5_bring into (f_X0_change how (S.1 cell.toNatClampNeg)) S).2)
set_option maxRecDepth 4000 in
theorem mt_X5_bringChanged (hp : qq_H) (S : sX) (hS : cs_X S hp) (how : Int32) (cell : Int32) (into : Int32)  : qq_Mt mX5_bringChanged [.ref 80, .int how, .int cell, .int into] hp 2 12 (fun v hp' => v = some (.int ((r_X5_bringChanged how cell into S).1)) ∧ cs_X ((r_X5_bringChanged how cell into S).2) hp' ∧ sm_X hp hp' ∧ (¬ cell < 0 ∧ ¬ 8 ≤ cell) ∧ (¬ into < 0 ∧ ¬ 8 ≤ into)) (fun E hp' => hp = hp' ∧ ((E = "java/lang/IndexOutOfBoundsException" ∧ (cell < 0 ∨ 8 ≤ cell)) ∨ (E = "java/lang/IndexOutOfBoundsException" ∧ (¬ cell < 0 ∧ ¬ 8 ≤ cell) ∧ (into < 0 ∨ 8 ≤ into)))) := by
  refine qq_met pn_X5 (Nat.le_of_ble_eq_true rfl) (Nat.le_of_ble_eq_true rfl) kc_X5_bringChanged ?_
  show qq_Go _ hp 2 12 0 [(0, .ref 80), (1, .int how), (2, .int cell), (3, .int into)] [] _ _
  refine qq_iload_n dX5_bringChanged_0 rfl 2 rfl ?_
  refine qq_callS (bc := 1) (bs := 6) (mc := 1) (ms := 6) (as := [.int cell]) (rest := []) dX5_bringChanged_1 (mt_X5_checkCell hp cell ) rfl kl_X5_32 ks_X5_checkCell ki_X5 kc_X5_checkCell kd_X5_checkCell rfl (by decide) (by decide) (Nat.le_of_ble_eq_true rfl) (fun v hp' hv _ _ => ?_) (fun E hp' zx _ _ => by obtain ⟨rfl, rfl, zf⟩ := zx; exact qq_thr rfl ⟨rfl, (Or.inl ⟨rfl, zf⟩)⟩)
  obtain ⟨rfl, rfl, zg1⟩ := hv
  have zg11 := zg1.1
  have zg12 := zg1.2
  show qq_Go _ hp 1 6 4 [(0, .ref 80), (1, .int how), (2, .int cell), (3, .int into)] [] _ _
  refine qq_iload_n dX5_bringChanged_4 rfl 3 rfl ?_
  refine qq_callS (bc := 0) (bs := 0) (mc := 1) (ms := 6) (as := [.int into]) (rest := []) dX5_bringChanged_5 (mt_X5_checkCell hp into ) rfl kl_X5_32 ks_X5_checkCell ki_X5 kc_X5_checkCell kd_X5_checkCell rfl (by decide) (by decide) (Nat.le_of_ble_eq_true rfl) (fun v hp' hv _ _ => ?_) (fun E hp' zx _ _ => by obtain ⟨rfl, rfl, zf⟩ := zx; exact qq_thr rfl ⟨rfl, (Or.inr ⟨rfl, zg1, zf⟩)⟩)
  obtain ⟨rfl, rfl, zg2⟩ := hv
  have zg21 := zg2.1
  have zg22 := zg2.2
  show qq_Go _ hp 0 0 8 [(0, .ref 80), (1, .int how), (2, .int cell), (3, .int into)] [] _ _
  refine qq_iload_n dX5_bringChanged_8 rfl 1 rfl ?_
  refine qq_aload_n dX5_bringChanged_9 rfl 0 rfl ?_
  refine cx_get hS dX5_bringChanged_10 0 (by decide) rfl kl_X5_9 ?_
  refine qq_iload_n dX5_bringChanged_13 rfl 2 rfl ?_
  refine qq_iald dX5_bringChanged_14 hS.2.2.2.1 (by first | assumption | exact qm_in8 (by assumption) (by assumption) | exact qm_in8d (by assumption) (by assumption) | decide) ?_
  refine qq_callS (bc := 0) (bs := 0) (mc := 0) (ms := 0) (as := [.int how, .int (S.1 cell.toNatClampNeg)]) (rest := []) dX5_bringChanged_15 (mt_X0_change hp how (S.1 cell.toNatClampNeg)) rfl kl_X5_87 ks_X0_change ki_X0 kc_X0_change kd_X0_change rfl (by decide) (by decide) (Nat.le_of_ble_eq_true rfl) (fun v hp' hv _ _ => ?_) (fun E hp' zx _ _ => zx.elim)
  obtain ⟨rfl, rfl⟩ := hv
  show qq_Go _ hp 0 0 18 [(0, .ref 80), (1, .int how), (2, .int cell), (3, .int into)] [.int (f_X0_change how (S.1 cell.toNatClampNeg))] _ _
  refine qq_istore (loc' := [(0, .ref 80), (1, .int how), (2, .int cell), (3, .int into), (4, .int (f_X0_change how (S.1 cell.toNatClampNeg)))]) dX5_bringChanged_18 [1, 2, 3, 4, 0] (Nat.le_of_ble_eq_true rfl) rfl ?_
  refine qq_iload dX5_bringChanged_20 4 rfl ?_
  refine qq_iconst (v := (-1)) dX5_bringChanged_22 (by decide) ?_
  refine qq_icmp_ne (tgt := 33) dX5_bringChanged_23 (by decide) (fun zc1 => ?_) (fun zc1 => ?_)
  · refine qq_aload_n dX5_bringChanged_33 rfl 0 rfl ?_
    refine qq_iload_n dX5_bringChanged_34 rfl 3 rfl ?_
    refine qq_iload dX5_bringChanged_35 4 rfl ?_
    refine qq_callV (bc := 0) (bs := 0) (mc := 0) (ms := 0) (o := 80) (ci := 2) (N := 6) (T := TX5) (as := [.int into, .int (f_X0_change how (S.1 cell.toNatClampNeg))]) (rest := []) dX5_bringChanged_37 hS.2.2.1 (by decide) rfl (mt_X5_bring hp S hS into (f_X0_change how (S.1 cell.toNatClampNeg)) (by first | assumption | exact ⟨by assumption, by assumption⟩ | exact qm_in8 (by assumption) (by assumption) | exact ⟨by assumption, qm_len (by assumption)⟩ | exact qm_in8d (by assumption) (by assumption) | decide)) rfl kl_X5_44 kn_X5_bring ke_X5_bring ki_X5 kc_X5_bring kd_X5_bring rfl (by decide) (by decide) (Nat.le_of_ble_eq_true rfl) (fun v hp1 hv _ _ => ?_) (fun E hp' zx _ _ => zx.elim)
    obtain ⟨rfl, hS1, sM1⟩ := hv
    show qq_Go _ hp1 0 0 40 [(0, .ref 80), (1, .int how), (2, .int cell), (3, .int into), (4, .int (f_X0_change how (S.1 cell.toNatClampNeg)))] [.int ((r_X5_bring into (f_X0_change how (S.1 cell.toNatClampNeg)) S).1)] _ _
    have ze : r_X5_bringChanged how cell into S = ((r_X5_bring into (f_X0_change how (S.1 cell.toNatClampNeg)) S).1, (r_X5_bring into (f_X0_change how (S.1 cell.toNatClampNeg)) S).2) := by
      rw [r_X5_bringChanged, if_neg zc1]
    exact qq_iret dX5_bringChanged_40 rfl rfl ⟨by rw [ze], by rw [ze]; exact hS1, sM1, zg1, zg2⟩
  · refine qq_aload_n dX5_bringChanged_26 rfl 0 rfl ?_
    refine qq_callV (bc := 0) (bs := 0) (mc := 0) (ms := 0) (o := 80) (ci := 2) (N := 6) (T := TX5) (as := []) (rest := []) dX5_bringChanged_27 hS.2.2.1 (by decide) rfl (mt_X5_refuse hp S hS ) rfl kl_X5_55 kn_X5_refuse ke_X5_refuse ki_X5 kc_X5_refuse kd_X5_refuse rfl (by decide) (by decide) (Nat.le_of_ble_eq_true rfl) (fun v hp2 hv _ _ => ?_) (fun E hp' zx _ _ => zx.elim)
    obtain ⟨rfl, hS2, sM2⟩ := hv
    show qq_Go _ hp2 0 0 30 [(0, .ref 80), (1, .int how), (2, .int cell), (3, .int into), (4, .int (f_X0_change how (S.1 cell.toNatClampNeg)))] [.int ((r_X5_refuse S).1)] _ _
    refine qq_goto (tgt := 40) dX5_bringChanged_30 (by decide) ?_
    have ze : r_X5_bringChanged how cell into S = ((r_X5_refuse S).1, (r_X5_refuse S).2) := by
      rw [r_X5_bringChanged, if_pos zc1]
    exact qq_iret dX5_bringChanged_40 rfl rfl ⟨by rw [ze], by rw [ze]; exact hS2, sM2, zg1, zg2⟩