def r_X5_greater (a : Int32) (b : Int32) (into : Int32) (S : sX) : Int32 × sX := if 0 ≤ (r_X5_compareCells a b S) then ((r_X5_bring into (S.1 a.toNatClampNeg) S).1, (r_X5_bring into (S.1 a.toNatClampNeg) S).2) else ((r_X5_bring into (S.1 b.toNatClampNeg) S).1, (r_X5_bring into (S.1 b.toNatClampNeg) S).2)
set_option maxRecDepth 4000 in
theorem mt_X5_greater (hp : qq_H) (S : sX) (hS : cs_X S hp) (a : Int32) (b : Int32) (into : Int32)  : qq_Mt mX5_greater [.ref 80, .int a, .int b, .int into] hp 3 18 (fun v hp' => v = some (.int ((r_X5_greater a b into S).1)) ∧ cs_X ((r_X5_greater a b into S).2) hp' ∧ sm_X hp hp' ∧ (¬ a < 0 ∧ ¬ 8 ≤ a) ∧ (¬ b < 0 ∧ ¬ 8 ≤ b) ∧ (¬ into < 0 ∧ ¬ 8 ≤ into)) (fun E hp' => hp = hp' ∧ ((E = "java/lang/IndexOutOfBoundsException" ∧ (a < 0 ∨ 8 ≤ a)) ∨ (E = "java/lang/IndexOutOfBoundsException" ∧ (¬ a < 0 ∧ ¬ 8 ≤ a) ∧ (b < 0 ∨ 8 ≤ b)) ∨ (E = "java/lang/IndexOutOfBoundsException" ∧ (¬ a < 0 ∧ ¬ 8 ≤ a) ∧ (¬ b < 0 ∧ ¬ 8 ≤ b) ∧ (into < 0 ∨ 8 ≤ into)))) := by
  refine qq_met pn_X5 (Nat.le_of_ble_eq_true rfl) (Nat.le_of_ble_eq_true rfl) kc_X5_greater ?_
  show qq_Go _ hp 3 18 0 [(0, .ref 80), (1, .int a), (2, .int b), (3, .int into)] [] _ _
  refine qq_iload_n dX5_greater_0 rfl 1 rfl ?_
  refine qq_callS (bc := 2) (bs := 12) (mc := 1) (ms := 6) (as := [.int a]) (rest := []) dX5_greater_1 (mt_X5_checkCell hp a ) rfl kl_X5_32 ks_X5_checkCell ki_X5 kc_X5_checkCell kd_X5_checkCell rfl (by decide) (by decide) (Nat.le_of_ble_eq_true rfl) (fun v hp' hv _ _ => ?_) (fun E hp' zx _ _ => by obtain ⟨rfl, rfl, zf⟩ := zx; exact qq_thr rfl ⟨rfl, (Or.inl ⟨rfl, zf⟩)⟩)
  obtain ⟨rfl, rfl, zg1⟩ := hv
  have zg11 := zg1.1
  have zg12 := zg1.2
  show qq_Go _ hp 2 12 4 [(0, .ref 80), (1, .int a), (2, .int b), (3, .int into)] [] _ _
  refine qq_iload_n dX5_greater_4 rfl 2 rfl ?_
  refine qq_callS (bc := 1) (bs := 6) (mc := 1) (ms := 6) (as := [.int b]) (rest := []) dX5_greater_5 (mt_X5_checkCell hp b ) rfl kl_X5_32 ks_X5_checkCell ki_X5 kc_X5_checkCell kd_X5_checkCell rfl (by decide) (by decide) (Nat.le_of_ble_eq_true rfl) (fun v hp' hv _ _ => ?_) (fun E hp' zx _ _ => by obtain ⟨rfl, rfl, zf⟩ := zx; exact qq_thr rfl ⟨rfl, (Or.inr (Or.inl ⟨rfl, zg1, zf⟩))⟩)
  obtain ⟨rfl, rfl, zg2⟩ := hv
  have zg21 := zg2.1
  have zg22 := zg2.2
  show qq_Go _ hp 1 6 8 [(0, .ref 80), (1, .int a), (2, .int b), (3, .int into)] [] _ _
  refine qq_iload_n dX5_greater_8 rfl 3 rfl ?_
  refine qq_callS (bc := 0) (bs := 0) (mc := 1) (ms := 6) (as := [.int into]) (rest := []) dX5_greater_9 (mt_X5_checkCell hp into ) rfl kl_X5_32 ks_X5_checkCell ki_X5 kc_X5_checkCell kd_X5_checkCell rfl (by decide) (by decide) (Nat.le_of_ble_eq_true rfl) (fun v hp' hv _ _ => ?_) (fun E hp' zx _ _ => by obtain ⟨rfl, rfl, zf⟩ := zx; exact qq_thr rfl ⟨rfl, (Or.inr (Or.inr ⟨rfl, zg1, zg2, zf⟩))⟩)
  obtain ⟨rfl, rfl, zg3⟩ := hv
  have zg31 := zg3.1
  have zg32 := zg3.2
  show qq_Go _ hp 0 0 12 [(0, .ref 80), (1, .int a), (2, .int b), (3, .int into)] [] _ _
  refine qq_aload_n dX5_greater_12 rfl 0 rfl ?_
  refine qq_iload_n dX5_greater_13 rfl 3 rfl ?_
  refine qq_aload_n dX5_greater_14 rfl 0 rfl ?_
  refine qq_iload_n dX5_greater_15 rfl 1 rfl ?_
  refine qq_iload_n dX5_greater_16 rfl 2 rfl ?_
  refine qq_callV (bc := 0) (bs := 0) (mc := 0) (ms := 0) (o := 80) (ci := 2) (N := 6) (T := TX5) (as := [.int a, .int b]) (rest := [.int into, .ref 80]) dX5_greater_17 hS.2.2.1 (by decide) rfl (mt_X5_compareCells hp S hS a b (by first | assumption | exact ⟨by assumption, by assumption⟩ | exact qm_in8 (by assumption) (by assumption) | exact ⟨by assumption, qm_len (by assumption)⟩ | exact qm_in8d (by assumption) (by assumption) | decide) (by first | assumption | exact ⟨by assumption, by assumption⟩ | exact qm_in8 (by assumption) (by assumption) | exact ⟨by assumption, qm_len (by assumption)⟩ | exact qm_in8d (by assumption) (by assumption) | decide)) rfl kl_X5_90 kn_X5_compareCells ke_X5_compareCells ki_X5 kc_X5_compareCells kd_X5_compareCells rfl (by decide) (by decide) (Nat.le_of_ble_eq_true rfl) (fun v hp' hv _ _ => ?_) (fun E hp' zx _ _ => zx.elim)
  obtain ⟨rfl, rfl⟩ := hv
  show qq_Go _ hp 0 0 20 [(0, .ref 80), (1, .int a), (2, .int b), (3, .int into)] [.int (r_X5_compareCells a b S), .int into, .ref 80] _ _
  refine qq_if_ge (tgt := 32) dX5_greater_20 (by decide) (fun zc1 => ?_) (fun zc1 => ?_)
  · refine qq_aload_n dX5_greater_32 rfl 0 rfl ?_
    refine cx_get hS dX5_greater_33 0 (by decide) rfl kl_X5_9 ?_
    refine qq_iload_n dX5_greater_36 rfl 1 rfl ?_
    refine qq_iald dX5_greater_37 hS.2.2.2.1 (by first | assumption | exact qm_in8 (by assumption) (by assumption) | exact qm_in8d (by assumption) (by assumption) | decide) ?_
    refine qq_callV (bc := 0) (bs := 0) (mc := 0) (ms := 0) (o := 80) (ci := 2) (N := 6) (T := TX5) (as := [.int into, .int (S.1 a.toNatClampNeg)]) (rest := []) dX5_greater_38 hS.2.2.1 (by decide) rfl (mt_X5_bring hp S hS into (S.1 a.toNatClampNeg) (by first | assumption | exact ⟨by assumption, by assumption⟩ | exact qm_in8 (by assumption) (by assumption) | exact ⟨by assumption, qm_len (by assumption)⟩ | exact qm_in8d (by assumption) (by assumption) | decide)) rfl kl_X5_44 kn_X5_bring ke_X5_bring ki_X5 kc_X5_bring kd_X5_bring rfl (by decide) (by decide) (Nat.le_of_ble_eq_true rfl) (fun v hp1 hv _ _ => ?_) (fun E hp' zx _ _ => zx.elim)
    obtain ⟨rfl, hS1, sM1⟩ := hv
    show qq_Go _ hp1 0 0 41 [(0, .ref 80), (1, .int a), (2, .int b), (3, .int into)] [.int ((r_X5_bring into (S.1 a.toNatClampNeg) S).1)] _ _
    have ze : r_X5_greater a b into S = ((r_X5_bring into (S.1 a.toNatClampNeg) S).1, (r_X5_bring into (S.1 a.toNatClampNeg) S).2) := by
      rw [r_X5_greater, if_pos zc1]
    exact qq_iret dX5_greater_41 rfl rfl ⟨by rw [ze], by rw [ze]; exact hS1, sM1, zg1, zg2, zg3⟩
  · refine qq_aload_n dX5_greater_23 rfl 0 rfl ?_
    refine cx_get hS dX5_greater_24 0 (by decide) rfl kl_X5_9 ?_
    refine qq_iload_n dX5_greater_27 rfl 2 rfl ?_
    refine qq_iald dX5_greater_28 hS.2.2.2.1 (by first | assumption | exact qm_in8 (by assumption) (by assumption) | exact qm_in8d (by assumption) (by assumption) | decide) ?_
    refine qq_goto (tgt := 38) dX5_greater_29 (by decide) ?_
    refine qq_callV (bc := 0) (bs := 0) (mc := 0) (ms := 0) (o := 80) (ci := 2) (N := 6) (T := TX5) (as := [.int into, .int (S.1 b.toNatClampNeg)]) (rest := []) dX5_greater_38 hS.2.2.1 (by decide) rfl (mt_X5_bring hp S hS into (S.1 b.toNatClampNeg) (by first | assumption | exact ⟨by assumption, by assumption⟩ | exact qm_in8 (by assumption) (by assumption) | exact ⟨by assumption, qm_len (by assumption)⟩ | exact qm_in8d (by assumption) (by assumption) | decide)) rfl kl_X5_44 kn_X5_bring ke_X5_bring ki_X5 kc_X5_bring kd_X5_bring rfl (by decide) (by decide) (Nat.le_of_ble_eq_true rfl) (fun v hp2 hv _ _ => ?_) (fun E hp' zx _ _ => zx.elim)
    obtain ⟨rfl, hS2, sM2⟩ := hv
    show qq_Go _ hp2 0 0 41 [(0, .ref 80), (1, .int a), (2, .int b), (3, .int into)] [.int ((r_X5_bring into (S.1 b.toNatClampNeg) S).1)] _ _
    have ze : r_X5_greater a b into S = ((r_X5_bring into (S.1 b.toNatClampNeg) S).1, (r_X5_bring into (S.1 b.toNatClampNeg) S).2) := by
      rw [r_X5_greater, if_neg zc1]
    exact qq_iret dX5_greater_41 rfl rfl ⟨by rw [ze], by rw [ze]; exact hS2, sM2, zg1, zg2, zg3⟩
def r_X5_lesser (a : Int32) (b : Int32) (into : Int32) (S : sX) : Int32 × sX := if (r_X5_compareCells a b S) ≤ 0 then ((r_X5_bring into (S.1 a.toNatClampNeg) S).1, (r_X5_bring into (S.1 a.toNatClampNeg) S).2) else ((r_X5_bring into (S.1 b.toNatClampNeg) S).1, (r_X5_bring into (S.1 b.toNatClampNeg) S).2)
set_option maxRecDepth 4000 in
theorem mt_X5_lesser (hp : qq_H) (S : sX) (hS : cs_X S hp) (a : Int32) (b : Int32) (into : Int32)  : qq_Mt mX5_lesser [.ref 80, .int a, .int b, .int into] hp 3 18 (fun v hp' => v = some (.int ((r_X5_lesser a b into S).1)) ∧ cs_X ((r_X5_lesser a b into S).2) hp' ∧ sm_X hp hp' ∧ (¬ a < 0 ∧ ¬ 8 ≤ a) ∧ (¬ b < 0 ∧ ¬ 8 ≤ b) ∧ (¬ into < 0 ∧ ¬ 8 ≤ into)) (fun E hp' => hp = hp' ∧ ((E = "java/lang/IndexOutOfBoundsException" ∧ (a < 0 ∨ 8 ≤ a)) ∨ (E = "java/lang/IndexOutOfBoundsException" ∧ (¬ a < 0 ∧ ¬ 8 ≤ a) ∧ (b < 0 ∨ 8 ≤ b)) ∨ (E = "java/lang/IndexOutOfBoundsException" ∧ (¬ a < 0 ∧ ¬ 8 ≤ a) ∧ (¬ b < 0 ∧ ¬ 8 ≤ b) ∧ (into < 0 ∨ 8 ≤ into)))) := by
  refine qq_met pn_X5 (Nat.le_of_ble_eq_true rfl) (Nat.le_of_ble_eq_true rfl) kc_X5_lesser ?_
  show qq_Go _ hp 3 18 0 [(0, .ref 80), (1, .int a), (2, .int b), (3, .int into)] [] _ _
  refine qq_iload_n dX5_lesser_0 rfl 1 rfl ?_
  refine qq_callS (bc := 2) (bs := 12) (mc := 1) (ms := 6) (as := [.int a]) (rest := []) dX5_lesser_1 (mt_X5_checkCell hp a ) rfl kl_X5_32 ks_X5_checkCell ki_X5 kc_X5_checkCell kd_X5_checkCell rfl (by decide) (by decide) (Nat.le_of_ble_eq_true rfl) (fun v hp' hv _ _ => ?_) (fun E hp' zx _ _ => by obtain ⟨rfl, rfl, zf⟩ := zx; exact qq_thr rfl ⟨rfl, (Or.inl ⟨rfl, zf⟩)⟩)
  obtain ⟨rfl, rfl, zg1⟩ := hv
  have zg11 := zg1.1
  have zg12 := zg1.2
  show qq_Go _ hp 2 12 4 [(0, .ref 80), (1, .int a), (2, .int b), (3, .int into)] [] _ _
  refine qq_iload_n dX5_lesser_4 rfl 2 rfl ?_
  refine qq_callS (bc := 1) (bs := 6) (mc := 1) (ms := 6) (as := [.int b]) (rest := []) dX5_lesser_5 (mt_X5_checkCell hp b ) rfl kl_X5_32 ks_X5_checkCell ki_X5 kc_X5_checkCell kd_X5_checkCell rfl (by decide) (by decide) (Nat.le_of_ble_eq_true rfl) (fun v hp' hv _ _ => ?_) (fun E hp' zx _ _ => by obtain ⟨rfl, rfl, zf⟩ := zx; exact qq_thr rfl ⟨rfl, (Or.inr (Or.inl ⟨rfl, zg1, zf⟩))⟩)
  obtain ⟨rfl, rfl, zg2⟩ := hv
  have zg21 := zg2.1
  have zg22 := zg2.2
  show qq_Go _ hp 1 6 8 [(0, .ref 80), (1, .int a), (2, .int b), (3, .int into)] [] _ _
  refine qq_iload_n dX5_lesser_8 rfl 3 rfl ?_
  refine qq_callS (bc := 0) (bs := 0) (mc := 1) (ms := 6) (as := [.int into]) (rest := []) dX5_lesser_9 (mt_X5_checkCell hp into ) rfl kl_X5_32 ks_X5_checkCell ki_X5 kc_X5_checkCell kd_X5_checkCell rfl (by decide) (by decide) (Nat.le_of_ble_eq_true rfl) (fun v hp' hv _ _ => ?_) (fun E hp' zx _ _ => by obtain ⟨rfl, rfl, zf⟩ := zx; exact qq_thr rfl ⟨rfl, (Or.inr (Or.inr ⟨rfl, zg1, zg2, zf⟩))⟩)
  obtain ⟨rfl, rfl, zg3⟩ := hv
  have zg31 := zg3.1
  have zg32 := zg3.2
  show qq_Go _ hp 0 0 12 [(0, .ref 80), (1, .int a), (2, .int b), (3, .int into)] [] _ _
  refine qq_aload_n dX5_lesser_12 rfl 0 rfl ?_
  refine qq_iload_n dX5_lesser_13 rfl 3 rfl ?_
  refine qq_aload_n dX5_lesser_14 rfl 0 rfl ?_
  refine qq_iload_n dX5_lesser_15 rfl 1 rfl ?_
  refine qq_iload_n dX5_lesser_16 rfl 2 rfl ?_
  refine qq_callV (bc := 0) (bs := 0) (mc := 0) (ms := 0) (o := 80) (ci := 2) (N := 6) (T := TX5) (as := [.int a, .int b]) (rest := [.int into, .ref 80]) dX5_lesser_17 hS.2.2.1 (by decide) rfl (mt_X5_compareCells hp S hS a b (by first | assumption | exact ⟨by assumption, by assumption⟩ | exact qm_in8 (by assumption) (by assumption) | exact ⟨by assumption, qm_len (by assumption)⟩ | exact qm_in8d (by assumption) (by assumption) | decide) (by first | assumption | exact ⟨by assumption, by assumption⟩ | exact qm_in8 (by assumption) (by assumption) | exact ⟨by assumption, qm_len (by assumption)⟩ | exact qm_in8d (by assumption) (by assumption) | decide)) rfl kl_X5_90 kn_X5_compareCells ke_X5_compareCells ki_X5 kc_X5_compareCells kd_X5_compareCells rfl (by decide) (by decide) (Nat.le_of_ble_eq_true rfl) (fun v hp' hv _ _ => ?_) (fun E hp' zx _ _ => zx.elim)
  obtain ⟨rfl, rfl⟩ := hv
  show qq_Go _ hp 0 0 20 [(0, .ref 80), (1, .int a), (2, .int b), (3, .int into)] [.int (r_X5_compareCells a b S), .int into, .ref 80] _ _
  refine qq_if_le (tgt := 32) dX5_lesser_20 (by decide) (fun zc1 => ?_) (fun zc1 => ?_)
  · refine qq_aload_n dX5_lesser_32 rfl 0 rfl ?_
    refine cx_get hS dX5_lesser_33 0 (by decide) rfl kl_X5_9 ?_
    refine qq_iload_n dX5_lesser_36 rfl 1 rfl ?_
    refine qq_iald dX5_lesser_37 hS.2.2.2.1 (by first | assumption | exact qm_in8 (by assumption) (by assumption) | exact qm_in8d (by assumption) (by assumption) | decide) ?_
    refine qq_callV (bc := 0) (bs := 0) (mc := 0) (ms := 0) (o := 80) (ci := 2) (N := 6) (T := TX5) (as := [.int into, .int (S.1 a.toNatClampNeg)]) (rest := []) dX5_lesser_38 hS.2.2.1 (by decide) rfl (mt_X5_bring hp S hS into (S.1 a.toNatClampNeg) (by first | assumption | exact ⟨by assumption, by assumption⟩ | exact qm_in8 (by assumption) (by assumption) | exact ⟨by assumption, qm_len (by assumption)⟩ | exact qm_in8d (by assumption) (by assumption) | decide)) rfl kl_X5_44 kn_X5_bring ke_X5_bring ki_X5 kc_X5_bring kd_X5_bring rfl (by decide) (by decide) (Nat.le_of_ble_eq_true rfl) (fun v hp1 hv _ _ => ?_) (fun E hp' zx _ _ => zx.elim)
    obtain ⟨rfl, hS1, sM1⟩ := hv
    show qq_Go _ hp1 0 0 41 [(0, .ref 80), (1, .int a), (2, .int b), (3, .int into)] [.int ((r_X5_bring into (S.1 a.toNatClampNeg) S).1)] _ _
    have ze : r_X5_lesser a b into S = ((r_X5_bring into (S.1 a.toNatClampNeg) S).1, (r_X5_bring into (S.1 a.toNatClampNeg) S).2) := by
      rw [r_X5_lesser, if_pos zc1]
    exact qq_iret dX5_lesser_41 rfl rfl ⟨by rw [ze], by rw [ze]; exact hS1, sM1, zg1, zg2, zg3⟩
  · refine qq_aload_n dX5_lesser_23 rfl 0 rfl ?_
    refine cx_get hS dX5_lesser_24 0 (by decide) rfl kl_X5_9 ?_
    refine qq_iload_n dX5_lesser_27 rfl 2 rfl ?_
    refine qq_iald dX5_lesser_28 hS.2.2.2.1 (by first | assumption | exact qm_in8 (by assumption) (by assumption) | exact qm_in8d (by assumption) (by assumption) | decide) ?_
    refine qq_goto (tgt := 38) dX5_lesser_29 (by decide) ?_
    refine qq_callV (bc := 0) (bs := 0) (mc := 0) (ms := 0) (o := 80) (ci := 2) (N := 6) (T := TX5) (as := [.int into, .int (S.1 b.toNatClampNeg)]) (rest := []) dX5_lesser_38 hS.2.2.1 (by decide) rfl (mt_X5_bring hp S hS into (S.1 b.toNatClampNeg) (by first | assumption | exact ⟨by assumption, by assumption⟩ | exact qm_in8 (by assumption) (by assumption) | exact ⟨by assumption, qm_len (by assumption)⟩ | exact qm_in8d (by assumption) (by assumption) | decide)) rfl kl_X5_44 kn_X5_bring ke_X5_bring ki_X5 kc_X5_bring kd_X5_bring rfl (by decide) (by decide) (Nat.le_of_ble_eq_true rfl) (fun v hp2 hv _ _ => ?_) (fun E hp' zx _ _ => zx.elim)
    obtain ⟨rfl, hS2, sM2⟩ := hv
    show qq_Go _ hp2 0 0 41 [(0, .ref 80), (1, .int a), (2, .int b), (3, .int into)] [.int ((r_X5_bring into (S.1 b.toNatClampNeg) S).1)] _ _
    have ze : r_X5_lesser a b into S = ((r_X5_bring into (S.1 b.toNatClampNeg) S).1, (r_X5_bring into (S.1 b.toNatClampNeg) S).2) := by
      rw [r_X5_lesser, if_neg zc1]
    exact qq_iret dX5_lesser_41 rfl rfl ⟨by rw [ze], by rw [ze]; exact hS2, sM2, zg1, zg2, zg3⟩
def r_X5_kind (cell : Int32) (S : sX) : Int32 := f_X2_kindOf (S.1 cell.toNatClampNeg)
set_option maxRecDepth 4000 in
theorem mt_X5_kind (hp : qq_H) (S : sX) (hS : cs_X S hp) (cell : Int32)  : qq_Mt mX5_kind [.ref 80, .int cell] hp 1 6 (fun v hp' => v = some (.int (r_X5_kind cell S)) ∧ hp = hp' ∧ (¬ cell < 0 ∧ ¬ 8 ≤ cell)) (fun E hp' => hp = hp' ∧ ((E = "java/lang/IndexOutOfBoundsException" ∧ (cell < 0 ∨ 8 ≤ cell)))) := by
  refine qq_met pn_X5 (Nat.le_of_ble_eq_true rfl) (Nat.le_of_ble_eq_true rfl) kc_X5_kind ?_
  show qq_Go _ hp 1 6 0 [(0, .ref 80), (1, .int cell)] [] _ _
  refine qq_iload_n dX5_kind_0 rfl 1 rfl ?_
  refine qq_callS (bc := 0) (bs := 0) (mc := 1) (ms := 6) (as := [.int cell]) (rest := []) dX5_kind_1 (mt_X5_checkCell hp cell ) rfl kl_X5_32 ks_X5_checkCell ki_X5 kc_X5_checkCell kd_X5_checkCell rfl (by decide) (by decide) (Nat.le_of_ble_eq_true rfl) (fun v hp' hv _ _ => ?_) (fun E hp' zx _ _ => by obtain ⟨rfl, rfl, zf⟩ := zx; exact qq_thr rfl ⟨rfl, ⟨rfl, zf⟩⟩)
  obtain ⟨rfl, rfl, zg1⟩ := hv
  have zg11 := zg1.1
  have zg12 := zg1.2
  show qq_Go _ hp 0 0 4 [(0, .ref 80), (1, .int cell)] [] _ _
  refine qq_aload_n dX5_kind_4 rfl 0 rfl ?_
  refine cx_get hS dX5_kind_5 0 (by decide) rfl kl_X5_9 ?_
  refine qq_iload_n dX5_kind_8 rfl 1 rfl ?_
  refine qq_iald dX5_kind_9 hS.2.2.2.1 (by first | assumption | exact qm_in8 (by assumption) (by assumption) | exact qm_in8d (by assumption) (by assumption) | decide) ?_
  refine qq_callS (bc := 0) (bs := 0) (mc := 0) (ms := 0) (as := [.int (S.1 cell.toNatClampNeg)]) (rest := []) dX5_kind_10 (mt_X2_kindOf hp (S.1 cell.toNatClampNeg)) rfl kl_X5_75 ks_X2_kindOf ki_X2 kc_X2_kindOf kd_X2_kindOf rfl (by decide) (by decide) (Nat.le_of_ble_eq_true rfl) (fun v hp' hv _ _ => ?_) (fun E hp' zx _ _ => zx.elim)
  obtain ⟨rfl, rfl⟩ := hv
  show qq_Go _ hp 0 0 13 [(0, .ref 80), (1, .int cell)] [.int (f_X2_kindOf (S.1 cell.toNatClampNeg))] _ _
  have ze : r_X5_kind cell S = f_X2_kindOf (S.1 cell.toNatClampNeg) := by
    rw [r_X5_kind]
  exact qq_iret dX5_kind_13 rfl rfl ⟨by rw [ze], rfl, zg1⟩
def r_X5_of (cell : Int32) (S : sX) : Int32 := f_X2_qOf (S.1 cell.toNatClampNeg)
set_option maxRecDepth 4000 in
theorem mt_X5_of (hp : qq_H) (S : sX) (hS : cs_X S hp) (cell : Int32)  : qq_Mt mX5_of [.ref 80, .int cell] hp 1 6 (fun v hp' => v = some (.int (r_X5_of cell S)) ∧ hp = hp' ∧ (¬ cell < 0 ∧ ¬ 8 ≤ cell)) (fun E hp' => hp = hp' ∧ ((E = "java/lang/IndexOutOfBoundsException" ∧ (cell < 0 ∨ 8 ≤ cell)))) := by
  refine qq_met pn_X5 (Nat.le_of_ble_eq_true rfl) (Nat.le_of_ble_eq_true rfl) kc_X5_of ?_
  show qq_Go _ hp 1 6 0 [(0, .ref 80), (1, .int cell)] [] _ _
  refine qq_iload_n dX5_of_0 rfl 1 rfl ?_
  refine qq_callS (bc := 0) (bs := 0) (mc := 1) (ms := 6) (as := [.int cell]) (rest := []) dX5_of_1 (mt_X5_checkCell hp cell ) rfl kl_X5_32 ks_X5_checkCell ki_X5 kc_X5_checkCell kd_X5_checkCell rfl (by decide) (by decide) (Nat.le_of_ble_eq_true rfl) (fun v hp' hv _ _ => ?_) (fun E hp' zx _ _ => by obtain ⟨rfl, rfl, zf⟩ := zx; exact qq_thr rfl ⟨rfl, ⟨rfl, zf⟩⟩)
  obtain ⟨rfl, rfl, zg1⟩ := hv
  have zg11 := zg1.1
  have zg12 := zg1.2
  show qq_Go _ hp 0 0 4 [(0, .ref 80), (1, .int cell)] [] _ _
  refine qq_aload_n dX5_of_4 rfl 0 rfl ?_
  refine cx_get hS dX5_of_5 0 (by decide) rfl kl_X5_9 ?_
  refine qq_iload_n dX5_of_8 rfl 1 rfl ?_
  refine qq_iald dX5_of_9 hS.2.2.2.1 (by first | assumption | exact qm_in8 (by assumption) (by assumption) | exact qm_in8d (by assumption) (by assumption) | decide) ?_
  refine qq_callS (bc := 0) (bs := 0) (mc := 0) (ms := 0) (as := [.int (S.1 cell.toNatClampNeg)]) (rest := []) dX5_of_10 (mt_X2_qOf hp (S.1 cell.toNatClampNeg)) rfl kl_X5_72 ks_X2_qOf ki_X2 kc_X2_qOf kd_X2_qOf rfl (by decide) (by decide) (Nat.le_of_ble_eq_true rfl) (fun v hp' hv _ _ => ?_) (fun E hp' zx _ _ => zx.elim)
  obtain ⟨rfl, rfl⟩ := hv
  show qq_Go _ hp 0 0 13 [(0, .ref 80), (1, .int cell)] [.int (f_X2_qOf (S.1 cell.toNatClampNeg))] _ _
  have ze : r_X5_of cell S = f_X2_qOf (S.1 cell.toNatClampNeg) := by
    rw [r_X5_of]
  exact qq_iret dX5_of_13 rfl rfl ⟨by rw [ze], rfl, zg1⟩
def r_X5_isBelow (cell : Int32) (S : sX) : Int32 := f_X2_isUnder (S.1 cell.toNatClampNeg)
theorem bz_X5_isBelow (cell : Int32) (S : sX) : r_X5_isBelow cell S = 0 ∨ r_X5_isBelow cell S = 1 := by
  unfold r_X5_isBelow
  exact (bz_X2_isUnder (S.1 cell.toNatClampNeg))
set_option maxRecDepth 4000 in
theorem mt_X5_isBelow (hp : qq_H) (S : sX) (hS : cs_X S hp) (cell : Int32)  : qq_Mt mX5_isBelow [.ref 80, .int cell] hp 1 6 (fun v hp' => v = some (.int (r_X5_isBelow cell S)) ∧ hp = hp' ∧ (¬ cell < 0 ∧ ¬ 8 ≤ cell)) (fun E hp' => hp = hp' ∧ ((E = "java/lang/IndexOutOfBoundsException" ∧ (cell < 0 ∨ 8 ≤ cell)))) := by
  refine qq_met pn_X5 (Nat.le_of_ble_eq_true rfl) (Nat.le_of_ble_eq_true rfl) kc_X5_isBelow ?_
  show qq_Go _ hp 1 6 0 [(0, .ref 80), (1, .int cell)] [] _ _
  refine qq_iload_n dX5_isBelow_0 rfl 1 rfl ?_
  refine qq_callS (bc := 0) (bs := 0) (mc := 1) (ms := 6) (as := [.int cell]) (rest := []) dX5_isBelow_1 (mt_X5_checkCell hp cell ) rfl kl_X5_32 ks_X5_checkCell ki_X5 kc_X5_checkCell kd_X5_checkCell rfl (by decide) (by decide) (Nat.le_of_ble_eq_true rfl) (fun v hp' hv _ _ => ?_) (fun E hp' zx _ _ => by obtain ⟨rfl, rfl, zf⟩ := zx; exact qq_thr rfl ⟨rfl, ⟨rfl, zf⟩⟩)
  obtain ⟨rfl, rfl, zg1⟩ := hv
  have zg11 := zg1.1
  have zg12 := zg1.2
  show qq_Go _ hp 0 0 4 [(0, .ref 80), (1, .int cell)] [] _ _
  refine qq_aload_n dX5_isBelow_4 rfl 0 rfl ?_
  refine cx_get hS dX5_isBelow_5 0 (by decide) rfl kl_X5_9 ?_
  refine qq_iload_n dX5_isBelow_8 rfl 1 rfl ?_
  refine qq_iald dX5_isBelow_9 hS.2.2.2.1 (by first | assumption | exact qm_in8 (by assumption) (by assumption) | exact qm_in8d (by assumption) (by assumption) | decide) ?_
  refine qq_callS (bc := 0) (bs := 0) (mc := 0) (ms := 0) (as := [.int (S.1 cell.toNatClampNeg)]) (rest := []) dX5_isBelow_10 (mt_X2_isUnder hp (S.1 cell.toNatClampNeg)) rfl kl_X5_93 ks_X2_isUnder ki_X2 kc_X2_isUnder kd_X2_isUnder rfl (by decide) (by decide) (Nat.le_of_ble_eq_true rfl) (fun v hp' hv _ _ => ?_) (fun E hp' zx _ _ => zx.elim)
  obtain ⟨rfl, rfl⟩ := hv
  show qq_Go _ hp 0 0 13 [(0, .ref 80), (1, .int cell)] [.int (f_X2_isUnder (S.1 cell.toNatClampNeg))] _ _
  have ze : r_X5_isBelow cell S = f_X2_isUnder (S.1 cell.toNatClampNeg) := by
    rw [r_X5_isBelow]
  exact qq_iret dX5_isBelow_13 rfl (qq_nz (bz_X2_isUnder (S.1 cell.toNatClampNeg))) ⟨by rw [ze], rfl, zg1⟩
def r_X5_isZero (cell : Int32) (S : sX) : Int32 := f_X2_isNought (S.1 cell.toNatClampNeg)
theorem bz_X5_isZero (cell : Int32) (S : sX) : r_X5_isZero cell S = 0 ∨ r_X5_isZero cell S = 1 := by
  unfold r_X5_isZero
  exact (bz_X2_isNought (S.1 cell.toNatClampNeg))
set_option maxRecDepth 4000 in
theorem mt_X5_isZero (hp : qq_H) (S : sX) (hS : cs_X S hp) (cell : Int32)  : qq_Mt mX5_isZero [.ref 80, .int cell] hp 1 6 (fun v hp' => v = some (.int (r_X5_isZero cell S)) ∧ hp = hp' ∧ (¬ cell < 0 ∧ ¬ 8 ≤ cell)) (fun E hp' => hp = hp' ∧ ((E = "java/lang/IndexOutOfBoundsException" ∧ (cell < 0 ∨ 8 ≤ cell)))) := by
  refine qq_met pn_X5 (Nat.le_of_ble_eq_true rfl) (Nat.le_of_ble_eq_true rfl) kc_X5_isZero ?_
  show qq_Go _ hp 1 6 0 [(0, .ref 80), (1, .int cell)] [] _ _
  refine qq_iload_n dX5_isZero_0 rfl 1 rfl ?_
  refine qq_callS (bc := 0) (bs := 0) (mc := 1) (ms := 6) (as := [.int cell]) (rest := []) dX5_isZero_1 (mt_X5_checkCell hp cell ) rfl kl_X5_32 ks_X5_checkCell ki_X5 kc_X5_checkCell kd_X5_checkCell rfl (by decide) (by decide) (Nat.le_of_ble_eq_true rfl) (fun v hp' hv _ _ => ?_) (fun E hp' zx _ _ => by obtain ⟨rfl, rfl, zf⟩ := zx; exact qq_thr rfl ⟨rfl, ⟨rfl, zf⟩⟩)
  obtain ⟨rfl, rfl, zg1⟩ := hv
  have zg11 := zg1.1
  have zg12 := zg1.2
  show qq_Go _ hp 0 0 4 [(0, .ref 80), (1, .int cell)] [] _ _
  refine qq_aload_n dX5_isZero_4 rfl 0 rfl ?_
  refine cx_get hS dX5_isZero_5 0 (by decide) rfl kl_X5_9 ?_
  refine qq_iload_n dX5_isZero_8 rfl 1 rfl ?_
  refine qq_iald dX5_isZero_9 hS.2.2.2.1 (by first | assumption | exact qm_in8 (by assumption) (by assumption) | exact qm_in8d (by assumption) (by assumption) | decide) ?_
  refine qq_callS (bc := 0) (bs := 0) (mc := 0) (ms := 0) (as := [.int (S.1 cell.toNatClampNeg)]) (rest := []) dX5_isZero_10 (mt_X2_isNought hp (S.1 cell.toNatClampNeg)) rfl kl_X5_96 ks_X2_isNought ki_X2 kc_X2_isNought kd_X2_isNought rfl (by decide) (by decide) (Nat.le_of_ble_eq_true rfl) (fun v hp' hv _ _ => ?_) (fun E hp' zx _ _ => zx.elim)
  obtain ⟨rfl, rfl⟩ := hv
  show qq_Go _ hp 0 0 13 [(0, .ref 80), (1, .int cell)] [.int (f_X2_isNought (S.1 cell.toNatClampNeg))] _ _
  have ze : r_X5_isZero cell S = f_X2_isNought (S.1 cell.toNatClampNeg) := by
    rw [r_X5_isZero]
  exact qq_iret dX5_isZero_13 rfl (qq_nz (bz_X2_isNought (S.1 cell.toNatClampNeg))) ⟨by rw [ze], rfl, zg1⟩
def r_X5_isEndless (cell : Int32) (S : sX) : Int32 := if (f_X2_kindOf (S.1 cell.toNatClampNeg)) = 1 then 1 else 0
theorem bz_X5_isEndless (cell : Int32) (S : sX) : r_X5_isEndless cell S = 0 ∨ r_X5_isEndless cell S = 1 := by
  unfold r_X5_isEndless
  exact (qq_i01 (Or.inr rfl) (Or.inl rfl))
set_option maxRecDepth 4000 in
theorem mt_X5_isEndless (hp : qq_H) (S : sX) (hS : cs_X S hp) (cell : Int32)  : qq_Mt mX5_isEndless [.ref 80, .int cell] hp 1 6 (fun v hp' => v = some (.int (r_X5_isEndless cell S)) ∧ hp = hp' ∧ (¬ cell < 0 ∧ ¬ 8 ≤ cell)) (fun E hp' => hp = hp' ∧ ((E = "java/lang/IndexOutOfBoundsException" ∧ (cell < 0 ∨ 8 ≤ cell)))) := by
  refine qq_met pn_X5 (Nat.le_of_ble_eq_true rfl) (Nat.le_of_ble_eq_true rfl) kc_X5_isEndless ?_
  show qq_Go _ hp 1 6 0 [(0, .ref 80), (1, .int cell)] [] _ _
  refine qq_iload_n dX5_isEndless_0 rfl 1 rfl ?_
  refine qq_callS (bc := 0) (bs := 0) (mc := 1) (ms := 6) (as := [.int cell]) (rest := []) dX5_isEndless_1 (mt_X5_checkCell hp cell ) rfl kl_X5_32 ks_X5_checkCell ki_X5 kc_X5_checkCell kd_X5_checkCell rfl (by decide) (by decide) (Nat.le_of_ble_eq_true rfl) (fun v hp' hv _ _ => ?_) (fun E hp' zx _ _ => by obtain ⟨rfl, rfl, zf⟩ := zx; exact qq_thr rfl ⟨rfl, ⟨rfl, zf⟩⟩)
  obtain ⟨rfl, rfl, zg1⟩ := hv
  have zg11 := zg1.1
  have zg12 := zg1.2
  show qq_Go _ hp 0 0 4 [(0, .ref 80), (1, .int cell)] [] _ _
  refine qq_aload_n dX5_isEndless_4 rfl 0 rfl ?_
  refine cx_get hS dX5_isEndless_5 0 (by decide) rfl kl_X5_9 ?_
  refine qq_iload_n dX5_isEndless_8 rfl 1 rfl ?_
  refine qq_iald dX5_isEndless_9 hS.2.2.2.1 (by first | assumption | exact qm_in8 (by assumption) (by assumption) | exact qm_in8d (by assumption) (by assumption) | decide) ?_
  refine qq_callS (bc := 0) (bs := 0) (mc := 0) (ms := 0) (as := [.int (S.1 cell.toNatClampNeg)]) (rest := []) dX5_isEndless_10 (mt_X2_kindOf hp (S.1 cell.toNatClampNeg)) rfl kl_X5_75 ks_X2_kindOf ki_X2 kc_X2_kindOf kd_X2_kindOf rfl (by decide) (by decide) (Nat.le_of_ble_eq_true rfl) (fun v hp' hv _ _ => ?_) (fun E hp' zx _ _ => zx.elim)
  obtain ⟨rfl, rfl⟩ := hv
  show qq_Go _ hp 0 0 13 [(0, .ref 80), (1, .int cell)] [.int (f_X2_kindOf (S.1 cell.toNatClampNeg))] _ _
  refine qq_iconst (v := 1) dX5_isEndless_13 (by decide) ?_
  refine qq_icmp_ne (tgt := 21) dX5_isEndless_14 (by decide) (fun zc1 => ?_) (fun zc1 => ?_)
  · refine qq_iconst (v := 0) dX5_isEndless_21 (by decide) ?_
    have ze : r_X5_isEndless cell S = 0 := by
      rw [r_X5_isEndless, if_neg zc1]
    exact qq_iret dX5_isEndless_22 rfl rfl ⟨by rw [ze], rfl, zg1⟩
  · refine qq_iconst (v := 1) dX5_isEndless_17 (by decide) ?_
    refine qq_goto (tgt := 22) dX5_isEndless_18 (by decide) ?_
    have ze : r_X5_isEndless cell S = 1 := by
      rw [r_X5_isEndless, if_pos zc1]
    exact qq_iret dX5_isEndless_22 rfl rfl ⟨by rw [ze], rfl, zg1⟩
def r_X5_height (cell : Int32) (S : sX) : Int32 := f_X1_heightOf (S.2.1 cell.toNatClampNeg)
set_option maxRecDepth 4000 in
theorem mt_X5_height (hp : qq_H) (S : sX) (hS : cs_X S hp) (cell : Int32)  : qq_Mt mX5_height [.ref 80, .int cell] hp 2 12 (fun v hp' => v = some (.int (r_X5_height cell S)) ∧ hp = hp' ∧ (¬ cell < 0 ∧ ¬ 8 ≤ cell) ∧ (¬ f_X2_hasHeight (S.1 cell.toNatClampNeg) = 0)) (fun E hp' => hp = hp' ∧ ((E = "java/lang/IndexOutOfBoundsException" ∧ (cell < 0 ∨ 8 ≤ cell)) ∨ (E = "java/lang/IllegalStateException" ∧ (¬ cell < 0 ∧ ¬ 8 ≤ cell) ∧ (f_X2_hasHeight (S.1 cell.toNatClampNeg) = 0)))) := by
  refine qq_met pn_X5 (Nat.le_of_ble_eq_true rfl) (Nat.le_of_ble_eq_true rfl) kc_X5_height ?_
  show qq_Go _ hp 2 12 0 [(0, .ref 80), (1, .int cell)] [] _ _
  refine qq_iload_n dX5_height_0 rfl 1 rfl ?_
  refine qq_callS (bc := 1) (bs := 6) (mc := 1) (ms := 6) (as := [.int cell]) (rest := []) dX5_height_1 (mt_X5_checkCell hp cell ) rfl kl_X5_32 ks_X5_checkCell ki_X5 kc_X5_checkCell kd_X5_checkCell rfl (by decide) (by decide) (Nat.le_of_ble_eq_true rfl) (fun v hp' hv _ _ => ?_) (fun E hp' zx _ _ => by obtain ⟨rfl, rfl, zf⟩ := zx; exact qq_thr rfl ⟨rfl, (Or.inl ⟨rfl, zf⟩)⟩)
  obtain ⟨rfl, rfl, zg1⟩ := hv
  have zg11 := zg1.1
  have zg12 := zg1.2
  show qq_Go _ hp 1 6 4 [(0, .ref 80), (1, .int cell)] [] _ _
  refine qq_aload_n dX5_height_4 rfl 0 rfl ?_
  refine qq_iload_n dX5_height_5 rfl 1 rfl ?_
  refine qq_callV (bc := 0) (bs := 0) (mc := 1) (ms := 6) (o := 80) (ci := 2) (N := 6) (T := TX5) (as := [.int cell]) (rest := []) dX5_height_6 hS.2.2.1 (by decide) rfl (mt_X5_checkHeight hp S hS cell (by first | assumption | exact ⟨by assumption, by assumption⟩ | exact qm_in8 (by assumption) (by assumption) | exact ⟨by assumption, qm_len (by assumption)⟩ | exact qm_in8d (by assumption) (by assumption) | decide)) rfl kl_X5_117 kn_X5_checkHeight ke_X5_checkHeight ki_X5 kc_X5_checkHeight kd_X5_checkHeight rfl (by decide) (by decide) (Nat.le_of_ble_eq_true rfl) (fun v hp' hv _ _ => ?_) (fun E hp' zx _ _ => by obtain ⟨rfl, rfl, zf⟩ := zx; exact qq_thr rfl ⟨rfl, (Or.inr ⟨rfl, zg1, zf⟩)⟩)
  obtain ⟨rfl, rfl, zg2⟩ := hv
  show qq_Go _ hp 0 0 9 [(0, .ref 80), (1, .int cell)] [] _ _
  refine qq_aload_n dX5_height_9 rfl 0 rfl ?_
  refine cx_get hS dX5_height_10 1 (by decide) rfl kl_X5_13 ?_
  refine qq_iload_n dX5_height_13 rfl 1 rfl ?_
  refine qq_lald dX5_height_14 hS.2.2.2.2.1 (by first | assumption | exact qm_in8 (by assumption) (by assumption) | exact qm_in8d (by assumption) (by assumption) | decide) ?_
  refine qq_callS (bc := 0) (bs := 0) (mc := 0) (ms := 0) (as := [.long (S.2.1 cell.toNatClampNeg)]) (rest := []) dX5_height_15 (mt_X1_heightOf hp (S.2.1 cell.toNatClampNeg)) rfl kl_X5_120 ks_X1_heightOf ki_X1 kc_X1_heightOf kd_X1_heightOf rfl (by decide) (by decide) (Nat.le_of_ble_eq_true rfl) (fun v hp' hv _ _ => ?_) (fun E hp' zx _ _ => zx.elim)
  obtain ⟨rfl, rfl⟩ := hv
  show qq_Go _ hp 0 0 18 [(0, .ref 80), (1, .int cell)] [.int (f_X1_heightOf (S.2.1 cell.toNatClampNeg))] _ _
  have ze : r_X5_height cell S = f_X1_heightOf (S.2.1 cell.toNatClampNeg) := by
    rw [r_X5_height]
  exact qq_iret dX5_height_18 rfl rfl ⟨by rw [ze], rfl, zg1, zg2⟩
def r_X5_digits (cell : Int32) (S : sX) : Int32 := f_X1_firstDigits (S.2.1 cell.toNatClampNeg)
set_option maxRecDepth 4000 in
theorem mt_X5_digits (hp : qq_H) (S : sX) (hS : cs_X S hp) (cell : Int32)  : qq_Mt mX5_digits [.ref 80, .int cell] hp 2 12 (fun v hp' => v = some (.int (r_X5_digits cell S)) ∧ hp = hp' ∧ (¬ cell < 0 ∧ ¬ 8 ≤ cell) ∧ (¬ f_X2_hasHeight (S.1 cell.toNatClampNeg) = 0)) (fun E hp' => hp = hp' ∧ ((E = "java/lang/IndexOutOfBoundsException" ∧ (cell < 0 ∨ 8 ≤ cell)) ∨ (E = "java/lang/IllegalStateException" ∧ (¬ cell < 0 ∧ ¬ 8 ≤ cell) ∧ (f_X2_hasHeight (S.1 cell.toNatClampNeg) = 0)))) := by
  refine qq_met pn_X5 (Nat.le_of_ble_eq_true rfl) (Nat.le_of_ble_eq_true rfl) kc_X5_digits ?_
  show qq_Go _ hp 2 12 0 [(0, .ref 80), (1, .int cell)] [] _ _
  refine qq_iload_n dX5_digits_0 rfl 1 rfl ?_
  refine qq_callS (bc := 1) (bs := 6) (mc := 1) (ms := 6) (as := [.int cell]) (rest := []) dX5_digits_1 (mt_X5_checkCell hp cell ) rfl kl_X5_32 ks_X5_checkCell ki_X5 kc_X5_checkCell kd_X5_checkCell rfl (by decide) (by decide) (Nat.le_of_ble_eq_true rfl) (fun v hp' hv _ _ => ?_) (fun E hp' zx _ _ => by obtain ⟨rfl, rfl, zf⟩ := zx; exact qq_thr rfl ⟨rfl, (Or.inl ⟨rfl, zf⟩)⟩)
  obtain ⟨rfl, rfl, zg1⟩ := hv
  have zg11 := zg1.1
  have zg12 := zg1.2
  show qq_Go _ hp 1 6 4 [(0, .ref 80), (1, .int cell)] [] _ _
  refine qq_aload_n dX5_digits_4 rfl 0 rfl ?_
  refine qq_iload_n dX5_digits_5 rfl 1 rfl ?_
  refine qq_callV (bc := 0) (bs := 0) (mc := 1) (ms := 6) (o := 80) (ci := 2) (N := 6) (T := TX5) (as := [.int cell]) (rest := []) dX5_digits_6 hS.2.2.1 (by decide) rfl (mt_X5_checkHeight hp S hS cell (by first | assumption | exact ⟨by assumption, by assumption⟩ | exact qm_in8 (by assumption) (by assumption) | exact ⟨by assumption, qm_len (by assumption)⟩ | exact qm_in8d (by assumption) (by assumption) | decide)) rfl kl_X5_117 kn_X5_checkHeight ke_X5_checkHeight ki_X5 kc_X5_checkHeight kd_X5_checkHeight rfl (by decide) (by decide) (Nat.le_of_ble_eq_true rfl) (fun v hp' hv _ _ => ?_) (fun E hp' zx _ _ => by obtain ⟨rfl, rfl, zf⟩ := zx; exact qq_thr rfl ⟨rfl, (Or.inr ⟨rfl, zg1, zf⟩)⟩)
  obtain ⟨rfl, rfl, zg2⟩ := hv
  show qq_Go _ hp 0 0 9 [(0, .ref 80), (1, .int cell)] [] _ _
  refine qq_aload_n dX5_digits_9 rfl 0 rfl ?_
  refine cx_get hS dX5_digits_10 1 (by decide) rfl kl_X5_13 ?_
  refine qq_iload_n dX5_digits_13 rfl 1 rfl ?_
  refine qq_lald dX5_digits_14 hS.2.2.2.2.1 (by first | assumption | exact qm_in8 (by assumption) (by assumption) | exact qm_in8d (by assumption) (by assumption) | decide) ?_
  refine qq_callS (bc := 0) (bs := 0) (mc := 0) (ms := 0) (as := [.long (S.2.1 cell.toNatClampNeg)]) (rest := []) dX5_digits_15 (mt_X1_firstDigits hp (S.2.1 cell.toNatClampNeg)) rfl kl_X5_123 ks_X1_firstDigits ki_X1 kc_X1_firstDigits kd_X1_firstDigits rfl (by decide) (by decide) (Nat.le_of_ble_eq_true rfl) (fun v hp' hv _ _ => ?_) (fun E hp' zx _ _ => zx.elim)
  obtain ⟨rfl, rfl⟩ := hv
  show qq_Go _ hp 0 0 18 [(0, .ref 80), (1, .int cell)] [.int (f_X1_firstDigits (S.2.1 cell.toNatClampNeg))] _ _
  have ze : r_X5_digits cell S = f_X1_firstDigits (S.2.1 cell.toNatClampNeg) := by
    rw [r_X5_digits]
  exact qq_iret dX5_digits_18 rfl rfl ⟨by rw [ze], rfl, zg1, zg2⟩
def r_X5_upper (cell : Int32) (S : sX) : Int32 := ((S.2.1 cell.toNatClampNeg) >>> ((32 : Int32).toInt64 &&& 63)).toInt32
set_option maxRecDepth 4000 in
theorem mt_X5_upper (hp : qq_H) (S : sX) (hS : cs_X S hp) (cell : Int32)  : qq_Mt mX5_upper [.ref 80, .int cell] hp 2 12 (fun v hp' => v = some (.int (r_X5_upper cell S)) ∧ hp = hp' ∧ (¬ cell < 0 ∧ ¬ 8 ≤ cell) ∧ (¬ f_X2_hasToldDigits (S.1 cell.toNatClampNeg) = 0)) (fun E hp' => hp = hp' ∧ ((E = "java/lang/IndexOutOfBoundsException" ∧ (cell < 0 ∨ 8 ≤ cell)) ∨ (E = "java/lang/IllegalStateException" ∧ (¬ cell < 0 ∧ ¬ 8 ≤ cell) ∧ (f_X2_hasToldDigits (S.1 cell.toNatClampNeg) = 0)))) := by
  refine qq_met pn_X5 (Nat.le_of_ble_eq_true rfl) (Nat.le_of_ble_eq_true rfl) kc_X5_upper ?_
  show qq_Go _ hp 2 12 0 [(0, .ref 80), (1, .int cell)] [] _ _
  refine qq_iload_n dX5_upper_0 rfl 1 rfl ?_
  refine qq_callS (bc := 1) (bs := 6) (mc := 1) (ms := 6) (as := [.int cell]) (rest := []) dX5_upper_1 (mt_X5_checkCell hp cell ) rfl kl_X5_32 ks_X5_checkCell ki_X5 kc_X5_checkCell kd_X5_checkCell rfl (by decide) (by decide) (Nat.le_of_ble_eq_true rfl) (fun v hp' hv _ _ => ?_) (fun E hp' zx _ _ => by obtain ⟨rfl, rfl, zf⟩ := zx; exact qq_thr rfl ⟨rfl, (Or.inl ⟨rfl, zf⟩)⟩)
  obtain ⟨rfl, rfl, zg1⟩ := hv
  have zg11 := zg1.1
  have zg12 := zg1.2
  show qq_Go _ hp 1 6 4 [(0, .ref 80), (1, .int cell)] [] _ _
  refine qq_aload_n dX5_upper_4 rfl 0 rfl ?_
  refine qq_iload_n dX5_upper_5 rfl 1 rfl ?_
  refine qq_callV (bc := 0) (bs := 0) (mc := 1) (ms := 6) (o := 80) (ci := 2) (N := 6) (T := TX5) (as := [.int cell]) (rest := []) dX5_upper_6 hS.2.2.1 (by decide) rfl (mt_X5_checkToldDigits hp S hS cell (by first | assumption | exact ⟨by assumption, by assumption⟩ | exact qm_in8 (by assumption) (by assumption) | exact ⟨by assumption, qm_len (by assumption)⟩ | exact qm_in8d (by assumption) (by assumption) | decide)) rfl kl_X5_126 kn_X5_checkToldDigits ke_X5_checkToldDigits ki_X5 kc_X5_checkToldDigits kd_X5_checkToldDigits rfl (by decide) (by decide) (Nat.le_of_ble_eq_true rfl) (fun v hp' hv _ _ => ?_) (fun E hp' zx _ _ => by obtain ⟨rfl, rfl, zf⟩ := zx; exact qq_thr rfl ⟨rfl, (Or.inr ⟨rfl, zg1, zf⟩)⟩)
  obtain ⟨rfl, rfl, zg2⟩ := hv
  show qq_Go _ hp 0 0 9 [(0, .ref 80), (1, .int cell)] [] _ _
  refine qq_aload_n dX5_upper_9 rfl 0 rfl ?_
  refine cx_get hS dX5_upper_10 1 (by decide) rfl kl_X5_13 ?_
  refine qq_iload_n dX5_upper_13 rfl 1 rfl ?_
  refine qq_lald dX5_upper_14 hS.2.2.2.2.1 (by first | assumption | exact qm_in8 (by assumption) (by assumption) | exact qm_in8d (by assumption) (by assumption) | decide) ?_
  refine qq_bipush (v := 32) dX5_upper_15 (by decide) ?_
  refine qq_lshr dX5_upper_17 ?_
  refine qq_l2i dX5_upper_18 ?_
  have ze : r_X5_upper cell S = ((S.2.1 cell.toNatClampNeg) >>> ((32 : Int32).toInt64 &&& 63)).toInt32 := by
    rw [r_X5_upper]
  exact qq_iret dX5_upper_19 rfl rfl ⟨by rw [ze], rfl, zg1, zg2⟩
def r_X5_lower (cell : Int32) (S : sX) : Int32 := (S.2.1 cell.toNatClampNeg).toInt32
set_option maxRecDepth 4000 in
theorem mt_X5_lower (hp : qq_H) (S : sX) (hS : cs_X S hp) (cell : Int32)  : qq_Mt mX5_lower [.ref 80, .int cell] hp 2 12 (fun v hp' => v = some (.int (r_X5_lower cell S)) ∧ hp = hp' ∧ (¬ cell < 0 ∧ ¬ 8 ≤ cell) ∧ (¬ f_X2_hasToldDigits (S.1 cell.toNatClampNeg) = 0)) (fun E hp' => hp = hp' ∧ ((E = "java/lang/IndexOutOfBoundsException" ∧ (cell < 0 ∨ 8 ≤ cell)) ∨ (E = "java/lang/IllegalStateException" ∧ (¬ cell < 0 ∧ ¬ 8 ≤ cell) ∧ (f_X2_hasToldDigits (S.1 cell.toNatClampNeg) = 0)))) := by
  refine qq_met pn_X5 (Nat.le_of_ble_eq_true rfl) (Nat.le_of_ble_eq_true rfl) kc_X5_lower ?_
  show qq_Go _ hp 2 12 0 [(0, .ref 80), (1, .int cell)] [] _ _
  refine qq_iload_n dX5_lower_0 rfl 1 rfl ?_
  refine qq_callS (bc := 1) (bs := 6) (mc := 1) (ms := 6) (as := [.int cell]) (rest := []) dX5_lower_1 (mt_X5_checkCell hp cell ) rfl kl_X5_32 ks_X5_checkCell ki_X5 kc_X5_checkCell kd_X5_checkCell rfl (by decide) (by decide) (Nat.le_of_ble_eq_true rfl) (fun v hp' hv _ _ => ?_) (fun E hp' zx _ _ => by obtain ⟨rfl, rfl, zf⟩ := zx; exact qq_thr rfl ⟨rfl, (Or.inl ⟨rfl, zf⟩)⟩)
  obtain ⟨rfl, rfl, zg1⟩ := hv
  have zg11 := zg1.1
  have zg12 := zg1.2
  show qq_Go _ hp 1 6 4 [(0, .ref 80), (1, .int cell)] [] _ _
  refine qq_aload_n dX5_lower_4 rfl 0 rfl ?_
  refine qq_iload_n dX5_lower_5 rfl 1 rfl ?_
  refine qq_callV (bc := 0) (bs := 0) (mc := 1) (ms := 6) (o := 80) (ci := 2) (N := 6) (T := TX5) (as := [.int cell]) (rest := []) dX5_lower_6 hS.2.2.1 (by decide) rfl (mt_X5_checkToldDigits hp S hS cell (by first | assumption | exact ⟨by assumption, by assumption⟩ | exact qm_in8 (by assumption) (by assumption) | exact ⟨by assumption, qm_len (by assumption)⟩ | exact qm_in8d (by assumption) (by assumption) | decide)) rfl kl_X5_126 kn_X5_checkToldDigits ke_X5_checkToldDigits ki_X5 kc_X5_checkToldDigits kd_X5_checkToldDigits rfl (by decide) (by decide) (Nat.le_of_ble_eq_true rfl) (fun v hp' hv _ _ => ?_) (fun E hp' zx _ _ => by obtain ⟨rfl, rfl, zf⟩ := zx; exact qq_thr rfl ⟨rfl, (Or.inr ⟨rfl, zg1, zf⟩)⟩)
  obtain ⟨rfl, rfl, zg2⟩ := hv
  show qq_Go _ hp 0 0 9 [(0, .ref 80), (1, .int cell)] [] _ _
  refine qq_aload_n dX5_lower_9 rfl 0 rfl ?_
  refine cx_get hS dX5_lower_10 1 (by decide) rfl kl_X5_13 ?_
  refine qq_iload_n dX5_lower_13 rfl 1 rfl ?_
  refine qq_lald dX5_lower_14 hS.2.2.2.2.1 (by first | assumption | exact qm_in8 (by assumption) (by assumption) | exact qm_in8d (by assumption) (by assumption) | decide) ?_
  refine qq_l2i dX5_lower_15 ?_
  have ze : r_X5_lower cell S = (S.2.1 cell.toNatClampNeg).toInt32 := by
    rw [r_X5_lower]
  exact qq_iret dX5_lower_16 rfl rfl ⟨by rw [ze], rfl, zg1, zg2⟩
def r_X5_order (a : Int32) (b : Int32) (S : sX) : Int32 := if (f_X2_areNear (S.1 a.toNatClampNeg) (S.1 b.toNatClampNeg)) = 0 then r_X5_compareCells a b S else 2
set_option maxRecDepth 4000 in
theorem mt_X5_order (hp : qq_H) (S : sX) (hS : cs_X S hp) (a : Int32) (b : Int32)  : qq_Mt mX5_order [.ref 80, .int a, .int b] hp 2 12 (fun v hp' => v = some (.int (r_X5_order a b S)) ∧ hp = hp' ∧ (¬ a < 0 ∧ ¬ 8 ≤ a) ∧ (¬ b < 0 ∧ ¬ 8 ≤ b)) (fun E hp' => hp = hp' ∧ ((E = "java/lang/IndexOutOfBoundsException" ∧ (a < 0 ∨ 8 ≤ a)) ∨ (E = "java/lang/IndexOutOfBoundsException" ∧ (¬ a < 0 ∧ ¬ 8 ≤ a) ∧ (b < 0 ∨ 8 ≤ b)))) := by
  refine qq_met pn_X5 (Nat.le_of_ble_eq_true rfl) (Nat.le_of_ble_eq_true rfl) kc_X5_order ?_
  show qq_Go _ hp 2 12 0 [(0, .ref 80), (1, .int a), (2, .int b)] [] _ _
  refine qq_iload_n dX5_order_0 rfl 1 rfl ?_
  refine qq_callS (bc := 1) (bs := 6) (mc := 1) (ms := 6) (as := [.int a]) (rest := []) dX5_order_1 (mt_X5_checkCell hp a ) rfl kl_X5_32 ks_X5_checkCell ki_X5 kc_X5_checkCell kd_X5_checkCell rfl (by decide) (by decide) (Nat.le_of_ble_eq_true rfl) (fun v hp' hv _ _ => ?_) (fun E hp' zx _ _ => by obtain ⟨rfl, rfl, zf⟩ := zx; exact qq_thr rfl ⟨rfl, (Or.inl ⟨rfl, zf⟩)⟩)
  obtain ⟨rfl, rfl, zg1⟩ := hv
  have zg11 := zg1.1
  have zg12 := zg1.2
  show qq_Go _ hp 1 6 4 [(0, .ref 80), (1, .int a), (2, .int b)] [] _ _
  refine qq_iload_n dX5_order_4 rfl 2 rfl ?_
  refine qq_callS (bc := 0) (bs := 0) (mc := 1) (ms := 6) (as := [.int b]) (rest := []) dX5_order_5 (mt_X5_checkCell hp b ) rfl kl_X5_32 ks_X5_checkCell ki_X5 kc_X5_checkCell kd_X5_checkCell rfl (by decide) (by decide) (Nat.le_of_ble_eq_true rfl) (fun v hp' hv _ _ => ?_) (fun E hp' zx _ _ => by obtain ⟨rfl, rfl, zf⟩ := zx; exact qq_thr rfl ⟨rfl, (Or.inr ⟨rfl, zg1, zf⟩)⟩)
  obtain ⟨rfl, rfl, zg2⟩ := hv
  have zg21 := zg2.1
  have zg22 := zg2.2
  show qq_Go _ hp 0 0 8 [(0, .ref 80), (1, .int a), (2, .int b)] [] _ _
  refine qq_aload_n dX5_order_8 rfl 0 rfl ?_
  refine cx_get hS dX5_order_9 0 (by decide) rfl kl_X5_9 ?_
  refine qq_iload_n dX5_order_12 rfl 1 rfl ?_
  refine qq_iald dX5_order_13 hS.2.2.2.1 (by first | assumption | exact qm_in8 (by assumption) (by assumption) | exact qm_in8d (by assumption) (by assumption) | decide) ?_
  refine qq_aload_n dX5_order_14 rfl 0 rfl ?_
  refine cx_get hS dX5_order_15 0 (by decide) rfl kl_X5_9 ?_
  refine qq_iload_n dX5_order_18 rfl 2 rfl ?_
  refine qq_iald dX5_order_19 hS.2.2.2.1 (by first | assumption | exact qm_in8 (by assumption) (by assumption) | exact qm_in8d (by assumption) (by assumption) | decide) ?_
  refine qq_callS (bc := 0) (bs := 0) (mc := 0) (ms := 0) (as := [.int (S.1 a.toNatClampNeg), .int (S.1 b.toNatClampNeg)]) (rest := []) dX5_order_20 (mt_X2_areNear hp (S.1 a.toNatClampNeg) (S.1 b.toNatClampNeg)) rfl kl_X5_133 ks_X2_areNear ki_X2 kc_X2_areNear kd_X2_areNear rfl (by decide) (by decide) (Nat.le_of_ble_eq_true rfl) (fun v hp' hv _ _ => ?_) (fun E hp' zx _ _ => zx.elim)
  obtain ⟨rfl, rfl⟩ := hv
  show qq_Go _ hp 0 0 23 [(0, .ref 80), (1, .int a), (2, .int b)] [.int (f_X2_areNear (S.1 a.toNatClampNeg) (S.1 b.toNatClampNeg))] _ _
  refine qq_if_eq (tgt := 30) dX5_order_23 (by decide) (fun zc1 => ?_) (fun zc1 => ?_)
  · refine qq_aload_n dX5_order_30 rfl 0 rfl ?_
    refine qq_iload_n dX5_order_31 rfl 1 rfl ?_
    refine qq_iload_n dX5_order_32 rfl 2 rfl ?_
    refine qq_callV (bc := 0) (bs := 0) (mc := 0) (ms := 0) (o := 80) (ci := 2) (N := 6) (T := TX5) (as := [.int a, .int b]) (rest := []) dX5_order_33 hS.2.2.1 (by decide) rfl (mt_X5_compareCells hp S hS a b (by first | assumption | exact ⟨by assumption, by assumption⟩ | exact qm_in8 (by assumption) (by assumption) | exact ⟨by assumption, qm_len (by assumption)⟩ | exact qm_in8d (by assumption) (by assumption) | decide) (by first | assumption | exact ⟨by assumption, by assumption⟩ | exact qm_in8 (by assumption) (by assumption) | exact ⟨by assumption, qm_len (by assumption)⟩ | exact qm_in8d (by assumption) (by assumption) | decide)) rfl kl_X5_90 kn_X5_compareCells ke_X5_compareCells ki_X5 kc_X5_compareCells kd_X5_compareCells rfl (by decide) (by decide) (Nat.le_of_ble_eq_true rfl) (fun v hp' hv _ _ => ?_) (fun E hp' zx _ _ => zx.elim)
    obtain ⟨rfl, rfl⟩ := hv
    show qq_Go _ hp 0 0 36 [(0, .ref 80), (1, .int a), (2, .int b)] [.int (r_X5_compareCells a b S)] _ _
    have ze : r_X5_order a b S = r_X5_compareCells a b S := by
      rw [r_X5_order, if_pos zc1]
    exact qq_iret dX5_order_36 rfl rfl ⟨by rw [ze], rfl, zg1, zg2⟩
  · refine qq_iconst (v := 2) dX5_order_26 (by decide) ?_
    refine qq_goto (tgt := 36) dX5_order_27 (by decide) ?_
    have ze : r_X5_order a b S = 2 := by
      rw [r_X5_order, if_neg zc1]
    exact qq_iret dX5_order_36 rfl rfl ⟨by rw [ze], rfl, zg1, zg2⟩
def r_X5_isAlike (a : Int32) (b : Int32) (S : sX) : Int32 := if (S.1 a.toNatClampNeg) = (S.1 b.toNatClampNeg) then 1 else 0
theorem bz_X5_isAlike (a : Int32) (b : Int32) (S : sX) : r_X5_isAlike a b S = 0 ∨ r_X5_isAlike a b S = 1 := by
  unfold r_X5_isAlike
  exact (qq_i01 (Or.inr rfl) (Or.inl rfl))
set_option maxRecDepth 4000 in
theorem mt_X5_isAlike (hp : qq_H) (S : sX) (hS : cs_X S hp) (a : Int32) (b : Int32)  : qq_Mt mX5_isAlike [.ref 80, .int a, .int b] hp 2 12 (fun v hp' => v = some (.int (r_X5_isAlike a b S)) ∧ hp = hp' ∧ (¬ a < 0 ∧ ¬ 8 ≤ a) ∧ (¬ b < 0 ∧ ¬ 8 ≤ b)) (fun E hp' => hp = hp' ∧ ((E = "java/lang/IndexOutOfBoundsException" ∧ (a < 0 ∨ 8 ≤ a)) ∨ (E = "java/lang/IndexOutOfBoundsException" ∧ (¬ a < 0 ∧ ¬ 8 ≤ a) ∧ (b < 0 ∨ 8 ≤ b)))) := by
  refine qq_met pn_X5 (Nat.le_of_ble_eq_true rfl) (Nat.le_of_ble_eq_true rfl) kc_X5_isAlike ?_
  show qq_Go _ hp 2 12 0 [(0, .ref 80), (1, .int a), (2, .int b)] [] _ _
  refine qq_iload_n dX5_isAlike_0 rfl 1 rfl ?_
  refine qq_callS (bc := 1) (bs := 6) (mc := 1) (ms := 6) (as := [.int a]) (rest := []) dX5_isAlike_1 (mt_X5_checkCell hp a ) rfl kl_X5_32 ks_X5_checkCell ki_X5 kc_X5_checkCell kd_X5_checkCell rfl (by decide) (by decide) (Nat.le_of_ble_eq_true rfl) (fun v hp' hv _ _ => ?_) (fun E hp' zx _ _ => by obtain ⟨rfl, rfl, zf⟩ := zx; exact qq_thr rfl ⟨rfl, (Or.inl ⟨rfl, zf⟩)⟩)
  obtain ⟨rfl, rfl, zg1⟩ := hv
  have zg11 := zg1.1
  have zg12 := zg1.2
  show qq_Go _ hp 1 6 4 [(0, .ref 80), (1, .int a), (2, .int b)] [] _ _
  refine qq_iload_n dX5_isAlike_4 rfl 2 rfl ?_
  refine qq_callS (bc := 0) (bs := 0) (mc := 1) (ms := 6) (as := [.int b]) (rest := []) dX5_isAlike_5 (mt_X5_checkCell hp b ) rfl kl_X5_32 ks_X5_checkCell ki_X5 kc_X5_checkCell kd_X5_checkCell rfl (by decide) (by decide) (Nat.le_of_ble_eq_true rfl) (fun v hp' hv _ _ => ?_) (fun E hp' zx _ _ => by obtain ⟨rfl, rfl, zf⟩ := zx; exact qq_thr rfl ⟨rfl, (Or.inr ⟨rfl, zg1, zf⟩)⟩)
  obtain ⟨rfl, rfl, zg2⟩ := hv
  have zg21 := zg2.1
  have zg22 := zg2.2
  show qq_Go _ hp 0 0 8 [(0, .ref 80), (1, .int a), (2, .int b)] [] _ _
  refine qq_aload_n dX5_isAlike_8 rfl 0 rfl ?_
  refine cx_get hS dX5_isAlike_9 0 (by decide) rfl kl_X5_9 ?_
  refine qq_iload_n dX5_isAlike_12 rfl 1 rfl ?_
  refine qq_iald dX5_isAlike_13 hS.2.2.2.1 (by first | assumption | exact qm_in8 (by assumption) (by assumption) | exact qm_in8d (by assumption) (by assumption) | decide) ?_
  refine qq_aload_n dX5_isAlike_14 rfl 0 rfl ?_
  refine cx_get hS dX5_isAlike_15 0 (by decide) rfl kl_X5_9 ?_
  refine qq_iload_n dX5_isAlike_18 rfl 2 rfl ?_
  refine qq_iald dX5_isAlike_19 hS.2.2.2.1 (by first | assumption | exact qm_in8 (by assumption) (by assumption) | exact qm_in8d (by assumption) (by assumption) | decide) ?_
  refine qq_icmp_ne (tgt := 27) dX5_isAlike_20 (by decide) (fun zc1 => ?_) (fun zc1 => ?_)
  · refine qq_iconst (v := 0) dX5_isAlike_27 (by decide) ?_
    have ze : r_X5_isAlike a b S = 0 := by
      rw [r_X5_isAlike, if_neg zc1]
    exact qq_iret dX5_isAlike_28 rfl rfl ⟨by rw [ze], rfl, zg1, zg2⟩
  · refine qq_iconst (v := 1) dX5_isAlike_23 (by decide) ?_
    refine qq_goto (tgt := 28) dX5_isAlike_24 (by decide) ?_
    have ze : r_X5_isAlike a b S = 1 := by
      rw [r_X5_isAlike, if_pos zc1]
    exact qq_iret dX5_isAlike_28 rfl rfl ⟨by rw [ze], rfl, zg1, zg2⟩
def r_X5_isNear (a : Int32) (b : Int32) (S : sX) : Int32 := f_X2_areNear (S.1 a.toNatClampNeg) (S.1 b.toNatClampNeg)
theorem bz_X5_isNear (a : Int32) (b : Int32) (S : sX) : r_X5_isNear a b S = 0 ∨ r_X5_isNear a b S = 1 := by
  unfold r_X5_isNear
  exact (bz_X2_areNear (S.1 a.toNatClampNeg) (S.1 b.toNatClampNeg))
set_option maxRecDepth 4000 in
theorem mt_X5_isNear (hp : qq_H) (S : sX) (hS : cs_X S hp) (a : Int32) (b : Int32)  : qq_Mt mX5_isNear [.ref 80, .int a, .int b] hp 2 12 (fun v hp' => v = some (.int (r_X5_isNear a b S)) ∧ hp = hp' ∧ (¬ a < 0 ∧ ¬ 8 ≤ a) ∧ (¬ b < 0 ∧ ¬ 8 ≤ b)) (fun E hp' => hp = hp' ∧ ((E = "java/lang/IndexOutOfBoundsException" ∧ (a < 0 ∨ 8 ≤ a)) ∨ (E = "java/lang/IndexOutOfBoundsException" ∧ (¬ a < 0 ∧ ¬ 8 ≤ a) ∧ (b < 0 ∨ 8 ≤ b)))) := by
  refine qq_met pn_X5 (Nat.le_of_ble_eq_true rfl) (Nat.le_of_ble_eq_true rfl) kc_X5_isNear ?_
  show qq_Go _ hp 2 12 0 [(0, .ref 80), (1, .int a), (2, .int b)] [] _ _
  refine qq_iload_n dX5_isNear_0 rfl 1 rfl ?_
  refine qq_callS (bc := 1) (bs := 6) (mc := 1) (ms := 6) (as := [.int a]) (rest := []) dX5_isNear_1 (mt_X5_checkCell hp a ) rfl kl_X5_32 ks_X5_checkCell ki_X5 kc_X5_checkCell kd_X5_checkCell rfl (by decide) (by decide) (Nat.le_of_ble_eq_true rfl) (fun v hp' hv _ _ => ?_) (fun E hp' zx _ _ => by obtain ⟨rfl, rfl, zf⟩ := zx; exact qq_thr rfl ⟨rfl, (Or.inl ⟨rfl, zf⟩)⟩)
  obtain ⟨rfl, rfl, zg1⟩ := hv
  have zg11 := zg1.1
  have zg12 := zg1.2
  show qq_Go _ hp 1 6 4 [(0, .ref 80), (1, .int a), (2, .int b)] [] _ _
  refine qq_iload_n dX5_isNear_4 rfl 2 rfl ?_
  refine qq_callS (bc := 0) (bs := 0) (mc := 1) (ms := 6) (as := [.int b]) (rest := []) dX5_isNear_5 (mt_X5_checkCell hp b ) rfl kl_X5_32 ks_X5_checkCell ki_X5 kc_X5_checkCell kd_X5_checkCell rfl (by decide) (by decide) (Nat.le_of_ble_eq_true rfl) (fun v hp' hv _ _ => ?_) (fun E hp' zx _ _ => by obtain ⟨rfl, rfl, zf⟩ := zx; exact qq_thr rfl ⟨rfl, (Or.inr ⟨rfl, zg1, zf⟩)⟩)
  obtain ⟨rfl, rfl, zg2⟩ := hv
  have zg21 := zg2.1
  have zg22 := zg2.2
  show qq_Go _ hp 0 0 8 [(0, .ref 80), (1, .int a), (2, .int b)] [] _ _
  refine qq_aload_n dX5_isNear_8 rfl 0 rfl ?_
  refine cx_get hS dX5_isNear_9 0 (by decide) rfl kl_X5_9 ?_
  refine qq_iload_n dX5_isNear_12 rfl 1 rfl ?_
  refine qq_iald dX5_isNear_13 hS.2.2.2.1 (by first | assumption | exact qm_in8 (by assumption) (by assumption) | exact qm_in8d (by assumption) (by assumption) | decide) ?_
  refine qq_aload_n dX5_isNear_14 rfl 0 rfl ?_
  refine cx_get hS dX5_isNear_15 0 (by decide) rfl kl_X5_9 ?_
  refine qq_iload_n dX5_isNear_18 rfl 2 rfl ?_
  refine qq_iald dX5_isNear_19 hS.2.2.2.1 (by first | assumption | exact qm_in8 (by assumption) (by assumption) | exact qm_in8d (by assumption) (by assumption) | decide) ?_
  refine qq_callS (bc := 0) (bs := 0) (mc := 0) (ms := 0) (as := [.int (S.1 a.toNatClampNeg), .int (S.1 b.toNatClampNeg)]) (rest := []) dX5_isNear_20 (mt_X2_areNear hp (S.1 a.toNatClampNeg) (S.1 b.toNatClampNeg)) rfl kl_X5_133 ks_X2_areNear ki_X2 kc_X2_areNear kd_X2_areNear rfl (by decide) (by decide) (Nat.le_of_ble_eq_true rfl) (fun v hp' hv _ _ => ?_) (fun E hp' zx _ _ => zx.elim)
  obtain ⟨rfl, rfl⟩ := hv
  show qq_Go _ hp 0 0 23 [(0, .ref 80), (1, .int a), (2, .int b)] [.int (f_X2_areNear (S.1 a.toNatClampNeg) (S.1 b.toNatClampNeg))] _ _
  have ze : r_X5_isNear a b S = f_X2_areNear (S.1 a.toNatClampNeg) (S.1 b.toNatClampNeg) := by
    rw [r_X5_isNear]
  exact qq_iret dX5_isNear_23 rfl (qq_nz (bz_X2_areNear (S.1 a.toNatClampNeg) (S.1 b.toNatClampNeg))) ⟨by rw [ze], rfl, zg1, zg2⟩
def r_X5_most (a : Int32) (b : Int32) (S : sX) : Int32 := f_X2_mostSteps (f_X2_qOf (S.1 a.toNatClampNeg))
set_option maxRecDepth 4000 in
theorem mt_X5_most (hp : qq_H) (S : sX) (hS : cs_X S hp) (a : Int32) (b : Int32)  : qq_Mt mX5_most [.ref 80, .int a, .int b] hp 3 18 (fun v hp' => v = some (.int (r_X5_most a b S)) ∧ hp = hp' ∧ (¬ a < 0 ∧ ¬ 8 ≤ a) ∧ (¬ b < 0 ∧ ¬ 8 ≤ b) ∧ (¬ f_X2_areNear (S.1 a.toNatClampNeg) (S.1 b.toNatClampNeg) = 0)) (fun E hp' => hp = hp' ∧ ((E = "java/lang/IndexOutOfBoundsException" ∧ (a < 0 ∨ 8 ≤ a)) ∨ (E = "java/lang/IndexOutOfBoundsException" ∧ (¬ a < 0 ∧ ¬ 8 ≤ a) ∧ (b < 0 ∨ 8 ≤ b)) ∨ (E = "java/lang/IllegalStateException" ∧ (¬ a < 0 ∧ ¬ 8 ≤ a) ∧ (¬ b < 0 ∧ ¬ 8 ≤ b) ∧ (f_X2_areNear (S.1 a.toNatClampNeg) (S.1 b.toNatClampNeg) = 0)))) := by
  refine qq_met pn_X5 (Nat.le_of_ble_eq_true rfl) (Nat.le_of_ble_eq_true rfl) kc_X5_most ?_
  show qq_Go _ hp 3 18 0 [(0, .ref 80), (1, .int a), (2, .int b)] [] _ _
  refine qq_iload_n dX5_most_0 rfl 1 rfl ?_
  refine qq_callS (bc := 2) (bs := 12) (mc := 1) (ms := 6) (as := [.int a]) (rest := []) dX5_most_1 (mt_X5_checkCell hp a ) rfl kl_X5_32 ks_X5_checkCell ki_X5 kc_X5_checkCell kd_X5_checkCell rfl (by decide) (by decide) (Nat.le_of_ble_eq_true rfl) (fun v hp' hv _ _ => ?_) (fun E hp' zx _ _ => by obtain ⟨rfl, rfl, zf⟩ := zx; exact qq_thr rfl ⟨rfl, (Or.inl ⟨rfl, zf⟩)⟩)
  obtain ⟨rfl, rfl, zg1⟩ := hv
  have zg11 := zg1.1
  have zg12 := zg1.2
  show qq_Go _ hp 2 12 4 [(0, .ref 80), (1, .int a), (2, .int b)] [] _ _
  refine qq_iload_n dX5_most_4 rfl 2 rfl ?_
  refine qq_callS (bc := 1) (bs := 6) (mc := 1) (ms := 6) (as := [.int b]) (rest := []) dX5_most_5 (mt_X5_checkCell hp b ) rfl kl_X5_32 ks_X5_checkCell ki_X5 kc_X5_checkCell kd_X5_checkCell rfl (by decide) (by decide) (Nat.le_of_ble_eq_true rfl) (fun v hp' hv _ _ => ?_) (fun E hp' zx _ _ => by obtain ⟨rfl, rfl, zf⟩ := zx; exact qq_thr rfl ⟨rfl, (Or.inr (Or.inl ⟨rfl, zg1, zf⟩))⟩)
  obtain ⟨rfl, rfl, zg2⟩ := hv
  have zg21 := zg2.1
  have zg22 := zg2.2
  show qq_Go _ hp 1 6 8 [(0, .ref 80), (1, .int a), (2, .int b)] [] _ _
  refine qq_aload_n dX5_most_8 rfl 0 rfl ?_
  refine qq_iload_n dX5_most_9 rfl 1 rfl ?_
  refine qq_iload_n dX5_most_10 rfl 2 rfl ?_
  refine qq_callV (bc := 0) (bs := 0) (mc := 1) (ms := 6) (o := 80) (ci := 2) (N := 6) (T := TX5) (as := [.int a, .int b]) (rest := []) dX5_most_11 hS.2.2.1 (by decide) rfl (mt_X5_checkNear hp S hS a b (by first | assumption | exact ⟨by assumption, by assumption⟩ | exact qm_in8 (by assumption) (by assumption) | exact ⟨by assumption, qm_len (by assumption)⟩ | exact qm_in8d (by assumption) (by assumption) | decide) (by first | assumption | exact ⟨by assumption, by assumption⟩ | exact qm_in8 (by assumption) (by assumption) | exact ⟨by assumption, qm_len (by assumption)⟩ | exact qm_in8d (by assumption) (by assumption) | decide)) rfl kl_X5_137 kn_X5_checkNear ke_X5_checkNear ki_X5 kc_X5_checkNear kd_X5_checkNear rfl (by decide) (by decide) (Nat.le_of_ble_eq_true rfl) (fun v hp' hv _ _ => ?_) (fun E hp' zx _ _ => by obtain ⟨rfl, rfl, zf⟩ := zx; exact qq_thr rfl ⟨rfl, (Or.inr (Or.inr ⟨rfl, zg1, zg2, zf⟩))⟩)
  obtain ⟨rfl, rfl, zg3⟩ := hv
  show qq_Go _ hp 0 0 14 [(0, .ref 80), (1, .int a), (2, .int b)] [] _ _
  refine qq_aload_n dX5_most_14 rfl 0 rfl ?_
  refine cx_get hS dX5_most_15 0 (by decide) rfl kl_X5_9 ?_
  refine qq_iload_n dX5_most_18 rfl 1 rfl ?_
  refine qq_iald dX5_most_19 hS.2.2.2.1 (by first | assumption | exact qm_in8 (by assumption) (by assumption) | exact qm_in8d (by assumption) (by assumption) | decide) ?_
  refine qq_callS (bc := 0) (bs := 0) (mc := 0) (ms := 0) (as := [.int (S.1 a.toNatClampNeg)]) (rest := []) dX5_most_20 (mt_X2_qOf hp (S.1 a.toNatClampNeg)) rfl kl_X5_72 ks_X2_qOf ki_X2 kc_X2_qOf kd_X2_qOf rfl (by decide) (by decide) (Nat.le_of_ble_eq_true rfl) (fun v hp' hv _ _ => ?_) (fun E hp' zx _ _ => zx.elim)
  obtain ⟨rfl, rfl⟩ := hv
  show qq_Go _ hp 0 0 23 [(0, .ref 80), (1, .int a), (2, .int b)] [.int (f_X2_qOf (S.1 a.toNatClampNeg))] _ _
  refine qq_callS (bc := 0) (bs := 0) (mc := 0) (ms := 0) (as := [.int (f_X2_qOf (S.1 a.toNatClampNeg))]) (rest := []) dX5_most_23 (mt_X2_mostSteps hp (f_X2_qOf (S.1 a.toNatClampNeg))) rfl kl_X5_140 ks_X2_mostSteps ki_X2 kc_X2_mostSteps kd_X2_mostSteps rfl (by decide) (by decide) (Nat.le_of_ble_eq_true rfl) (fun v hp' hv _ _ => ?_) (fun E hp' zx _ _ => zx.elim)
  obtain ⟨rfl, rfl⟩ := hv
  show qq_Go _ hp 0 0 26 [(0, .ref 80), (1, .int a), (2, .int b)] [.int (f_X2_mostSteps (f_X2_qOf (S.1 a.toNatClampNeg)))] _ _
  have ze : r_X5_most a b S = f_X2_mostSteps (f_X2_qOf (S.1 a.toNatClampNeg)) := by
    rw [r_X5_most]
  exact qq_iret dX5_most_26 rfl rfl ⟨by rw [ze], rfl, zg1, zg2, zg3⟩
def r_X5_isWithin (a : Int32) (b : Int32) (S : sX) : Int32 := f_X5_areWithin (S.1 a.toNatClampNeg) (S.1 b.toNatClampNeg)
theorem bz_X5_isWithin (a : Int32) (b : Int32) (S : sX) : r_X5_isWithin a b S = 0 ∨ r_X5_isWithin a b S = 1 := by
  unfold r_X5_isWithin
  exact (bz_X5_areWithin (S.1 a.toNatClampNeg) (S.1 b.toNatClampNeg))
set_option maxRecDepth 4000 in
theorem mt_X5_isWithin (hp : qq_H) (S : sX) (hS : cs_X S hp) (a : Int32) (b : Int32)  : qq_Mt mX5_isWithin [.ref 80, .int a, .int b] hp 3 18 (fun v hp' => v = some (.int (r_X5_isWithin a b S)) ∧ hp = hp' ∧ (¬ a < 0 ∧ ¬ 8 ≤ a) ∧ (¬ b < 0 ∧ ¬ 8 ≤ b) ∧ (¬ f_X2_areNear (S.1 a.toNatClampNeg) (S.1 b.toNatClampNeg) = 0)) (fun E hp' => hp = hp' ∧ ((E = "java/lang/IndexOutOfBoundsException" ∧ (a < 0 ∨ 8 ≤ a)) ∨ (E = "java/lang/IndexOutOfBoundsException" ∧ (¬ a < 0 ∧ ¬ 8 ≤ a) ∧ (b < 0 ∨ 8 ≤ b)) ∨ (E = "java/lang/IllegalStateException" ∧ (¬ a < 0 ∧ ¬ 8 ≤ a) ∧ (¬ b < 0 ∧ ¬ 8 ≤ b) ∧ (f_X2_areNear (S.1 a.toNatClampNeg) (S.1 b.toNatClampNeg) = 0)))) := by
  refine qq_met pn_X5 (Nat.le_of_ble_eq_true rfl) (Nat.le_of_ble_eq_true rfl) kc_X5_isWithin ?_
  show qq_Go _ hp 3 18 0 [(0, .ref 80), (1, .int a), (2, .int b)] [] _ _
  refine qq_iload_n dX5_isWithin_0 rfl 1 rfl ?_
  refine qq_callS (bc := 2) (bs := 12) (mc := 1) (ms := 6) (as := [.int a]) (rest := []) dX5_isWithin_1 (mt_X5_checkCell hp a ) rfl kl_X5_32 ks_X5_checkCell ki_X5 kc_X5_checkCell kd_X5_checkCell rfl (by decide) (by decide) (Nat.le_of_ble_eq_true rfl) (fun v hp' hv _ _ => ?_) (fun E hp' zx _ _ => by obtain ⟨rfl, rfl, zf⟩ := zx; exact qq_thr rfl ⟨rfl, (Or.inl ⟨rfl, zf⟩)⟩)
  obtain ⟨rfl, rfl, zg1⟩ := hv
  have zg11 := zg1.1
  have zg12 := zg1.2
  show qq_Go _ hp 2 12 4 [(0, .ref 80), (1, .int a), (2, .int b)] [] _ _
  refine qq_iload_n dX5_isWithin_4 rfl 2 rfl ?_
  refine qq_callS (bc := 1) (bs := 6) (mc := 1) (ms := 6) (as := [.int b]) (rest := []) dX5_isWithin_5 (mt_X5_checkCell hp b ) rfl kl_X5_32 ks_X5_checkCell ki_X5 kc_X5_checkCell kd_X5_checkCell rfl (by decide) (by decide) (Nat.le_of_ble_eq_true rfl) (fun v hp' hv _ _ => ?_) (fun E hp' zx _ _ => by obtain ⟨rfl, rfl, zf⟩ := zx; exact qq_thr rfl ⟨rfl, (Or.inr (Or.inl ⟨rfl, zg1, zf⟩))⟩)
  obtain ⟨rfl, rfl, zg2⟩ := hv
  have zg21 := zg2.1
  have zg22 := zg2.2
  show qq_Go _ hp 1 6 8 [(0, .ref 80), (1, .int a), (2, .int b)] [] _ _
  refine qq_aload_n dX5_isWithin_8 rfl 0 rfl ?_
  refine qq_iload_n dX5_isWithin_9 rfl 1 rfl ?_
  refine qq_iload_n dX5_isWithin_10 rfl 2 rfl ?_
  refine qq_callV (bc := 0) (bs := 0) (mc := 1) (ms := 6) (o := 80) (ci := 2) (N := 6) (T := TX5) (as := [.int a, .int b]) (rest := []) dX5_isWithin_11 hS.2.2.1 (by decide) rfl (mt_X5_checkNear hp S hS a b (by first | assumption | exact ⟨by assumption, by assumption⟩ | exact qm_in8 (by assumption) (by assumption) | exact ⟨by assumption, qm_len (by assumption)⟩ | exact qm_in8d (by assumption) (by assumption) | decide) (by first | assumption | exact ⟨by assumption, by assumption⟩ | exact qm_in8 (by assumption) (by assumption) | exact ⟨by assumption, qm_len (by assumption)⟩ | exact qm_in8d (by assumption) (by assumption) | decide)) rfl kl_X5_137 kn_X5_checkNear ke_X5_checkNear ki_X5 kc_X5_checkNear kd_X5_checkNear rfl (by decide) (by decide) (Nat.le_of_ble_eq_true rfl) (fun v hp' hv _ _ => ?_) (fun E hp' zx _ _ => by obtain ⟨rfl, rfl, zf⟩ := zx; exact qq_thr rfl ⟨rfl, (Or.inr (Or.inr ⟨rfl, zg1, zg2, zf⟩))⟩)
  obtain ⟨rfl, rfl, zg3⟩ := hv
  show qq_Go _ hp 0 0 14 [(0, .ref 80), (1, .int a), (2, .int b)] [] _ _
  refine qq_aload_n dX5_isWithin_14 rfl 0 rfl ?_
  refine cx_get hS dX5_isWithin_15 0 (by decide) rfl kl_X5_9 ?_
  refine qq_iload_n dX5_isWithin_18 rfl 1 rfl ?_
  refine qq_iald dX5_isWithin_19 hS.2.2.2.1 (by first | assumption | exact qm_in8 (by assumption) (by assumption) | exact qm_in8d (by assumption) (by assumption) | decide) ?_
  refine qq_aload_n dX5_isWithin_20 rfl 0 rfl ?_
  refine cx_get hS dX5_isWithin_21 0 (by decide) rfl kl_X5_9 ?_
  refine qq_iload_n dX5_isWithin_24 rfl 2 rfl ?_
  refine qq_iald dX5_isWithin_25 hS.2.2.2.1 (by first | assumption | exact qm_in8 (by assumption) (by assumption) | exact qm_in8d (by assumption) (by assumption) | decide) ?_
  refine qq_callS (bc := 0) (bs := 0) (mc := 0) (ms := 0) (as := [.int (S.1 a.toNatClampNeg), .int (S.1 b.toNatClampNeg)]) (rest := []) dX5_isWithin_26 (mt_X5_areWithin hp (S.1 a.toNatClampNeg) (S.1 b.toNatClampNeg) hS.1) rfl kl_X5_143 ks_X5_areWithin ki_X5 kc_X5_areWithin kd_X5_areWithin rfl (by decide) (by decide) (Nat.le_of_ble_eq_true rfl) (fun v hp' hv _ _ => ?_) (fun E hp' zx _ _ => zx.elim)
  obtain ⟨rfl, rfl⟩ := hv
  show qq_Go _ hp 0 0 29 [(0, .ref 80), (1, .int a), (2, .int b)] [.int (f_X5_areWithin (S.1 a.toNatClampNeg) (S.1 b.toNatClampNeg))] _ _
  have ze : r_X5_isWithin a b S = f_X5_areWithin (S.1 a.toNatClampNeg) (S.1 b.toNatClampNeg) := by
    rw [r_X5_isWithin]
  exact qq_iret dX5_isWithin_29 rfl (qq_nz (bz_X5_areWithin (S.1 a.toNatClampNeg) (S.1 b.toNatClampNeg))) ⟨by rw [ze], rfl, zg1, zg2, zg3⟩
def r_X5_before (how : Int32) (cell : Int32) (S : sX) : Int32 := f_X4_countAhead how (S.2.1 cell.toNatClampNeg)
set_option maxRecDepth 4000 in
theorem mt_X5_before (hp : qq_H) (S : sX) (hS : cs_X S hp) (how : Int32) (cell : Int32)  : qq_Mt mX5_before [.ref 80, .int how, .int cell] hp 2 12 (fun v hp' => v = some (.int (r_X5_before how cell S)) ∧ hp = hp' ∧ (¬ cell < 0 ∧ ¬ 8 ≤ cell) ∧ (¬ how < 0 ∧ ¬ 3 < how)) (fun E hp' => hp = hp' ∧ ((E = "java/lang/IndexOutOfBoundsException" ∧ (cell < 0 ∨ 8 ≤ cell)) ∨ (E = "java/lang/IllegalArgumentException" ∧ (¬ cell < 0 ∧ ¬ 8 ≤ cell) ∧ (how < 0 ∨ 3 < how)))) := by
  refine qq_met pn_X5 (Nat.le_of_ble_eq_true rfl) (Nat.le_of_ble_eq_true rfl) kc_X5_before ?_
  show qq_Go _ hp 2 12 0 [(0, .ref 80), (1, .int how), (2, .int cell)] [] _ _
  refine qq_iload_n dX5_before_0 rfl 2 rfl ?_
  refine qq_callS (bc := 1) (bs := 6) (mc := 1) (ms := 6) (as := [.int cell]) (rest := []) dX5_before_1 (mt_X5_checkCell hp cell ) rfl kl_X5_32 ks_X5_checkCell ki_X5 kc_X5_checkCell kd_X5_checkCell rfl (by decide) (by decide) (Nat.le_of_ble_eq_true rfl) (fun v hp' hv _ _ => ?_) (fun E hp' zx _ _ => by obtain ⟨rfl, rfl, zf⟩ := zx; exact qq_thr rfl ⟨rfl, (Or.inl ⟨rfl, zf⟩)⟩)
  obtain ⟨rfl, rfl, zg1⟩ := hv
  have zg11 := zg1.1
  have zg12 := zg1.2
  show qq_Go _ hp 1 6 4 [(0, .ref 80), (1, .int how), (2, .int cell)] [] _ _
  refine qq_iload_n dX5_before_4 rfl 1 rfl ?_
  refine qq_callS (bc := 0) (bs := 0) (mc := 1) (ms := 6) (as := [.int how]) (rest := []) dX5_before_5 (mt_X5_checkSeries hp how ) rfl kl_X5_146 ks_X5_checkSeries ki_X5 kc_X5_checkSeries kd_X5_checkSeries rfl (by decide) (by decide) (Nat.le_of_ble_eq_true rfl) (fun v hp' hv _ _ => ?_) (fun E hp' zx _ _ => by obtain ⟨rfl, rfl, zf⟩ := zx; exact qq_thr rfl ⟨rfl, (Or.inr ⟨rfl, zg1, zf⟩)⟩)
  obtain ⟨rfl, rfl, zg2⟩ := hv
  have zg21 := zg2.1
  have zg22 := zg2.2
  show qq_Go _ hp 0 0 8 [(0, .ref 80), (1, .int how), (2, .int cell)] [] _ _
  refine qq_iload_n dX5_before_8 rfl 1 rfl ?_
  refine qq_aload_n dX5_before_9 rfl 0 rfl ?_
  refine cx_get hS dX5_before_10 1 (by decide) rfl kl_X5_13 ?_
  refine qq_iload_n dX5_before_13 rfl 2 rfl ?_
  refine qq_lald dX5_before_14 hS.2.2.2.2.1 (by first | assumption | exact qm_in8 (by assumption) (by assumption) | exact qm_in8d (by assumption) (by assumption) | decide) ?_
  refine qq_callS (bc := 0) (bs := 0) (mc := 0) (ms := 0) (as := [.int how, .long (S.2.1 cell.toNatClampNeg)]) (rest := []) dX5_before_15 (mt_X4_countAhead hp how (S.2.1 cell.toNatClampNeg) hS.1) rfl kl_X5_149 ks_X4_countAhead ki_X4 kc_X4_countAhead kd_X4_countAhead rfl (by decide) (by decide) (Nat.le_of_ble_eq_true rfl) (fun v hp' hv _ _ => ?_) (fun E hp' zx _ _ => zx.elim)
  obtain ⟨rfl, rfl⟩ := hv
  show qq_Go _ hp 0 0 18 [(0, .ref 80), (1, .int how), (2, .int cell)] [.int (f_X4_countAhead how (S.2.1 cell.toNatClampNeg))] _ _
  have ze : r_X5_before how cell S = f_X4_countAhead how (S.2.1 cell.toNatClampNeg) := by
    rw [r_X5_before]
  exact qq_iret dX5_before_18 rfl rfl ⟨by rw [ze], rfl, zg1, zg2⟩
def r_X5_below (how : Int32) (n : Int32) (k : Int32) (S : sX) : Int32 := if n = 0 then f_X4_countAhead how (-9223372036854775808) else f_X4_countAhead how (f_X1_scaled n.toInt64 k)
set_option maxRecDepth 4000 in
theorem mt_X5_below (hp : qq_H) (S : sX) (hS : cs_X S hp) (how : Int32) (n : Int32) (k : Int32)  : qq_Mt mX5_below [.ref 80, .int how, .int n, .int k] hp 2 12 (fun v hp' => v = some (.int (r_X5_below how n k S)) ∧ hp = hp' ∧ (¬ how < 0 ∧ ¬ 3 < how) ∧ (¬ k < -62 ∧ ¬ 90 < k)) (fun E hp' => hp = hp' ∧ ((E = "java/lang/IllegalArgumentException" ∧ (how < 0 ∨ 3 < how)) ∨ (E = "java/lang/IllegalArgumentException" ∧ (¬ how < 0 ∧ ¬ 3 < how) ∧ (k < -62 ∨ 90 < k)))) := by
  refine qq_met pn_X5 (Nat.le_of_ble_eq_true rfl) (Nat.le_of_ble_eq_true rfl) kc_X5_below ?_
  show qq_Go _ hp 2 12 0 [(0, .ref 80), (1, .int how), (2, .int n), (3, .int k)] [] _ _
  refine qq_iload_n dX5_below_0 rfl 1 rfl ?_
  refine qq_callS (bc := 1) (bs := 6) (mc := 1) (ms := 6) (as := [.int how]) (rest := []) dX5_below_1 (mt_X5_checkSeries hp how ) rfl kl_X5_146 ks_X5_checkSeries ki_X5 kc_X5_checkSeries kd_X5_checkSeries rfl (by decide) (by decide) (Nat.le_of_ble_eq_true rfl) (fun v hp' hv _ _ => ?_) (fun E hp' zx _ _ => by obtain ⟨rfl, rfl, zf⟩ := zx; exact qq_thr rfl ⟨rfl, (Or.inl ⟨rfl, zf⟩)⟩)
  obtain ⟨rfl, rfl, zg1⟩ := hv
  have zg11 := zg1.1
  have zg12 := zg1.2
  show qq_Go _ hp 1 6 4 [(0, .ref 80), (1, .int how), (2, .int n), (3, .int k)] [] _ _
  refine qq_iload_n dX5_below_4 rfl 3 rfl ?_
  refine qq_bipush (v := (-62)) dX5_below_5 (by decide) ?_
  refine qq_bipush (v := 90) dX5_below_7 (by decide) ?_
  refine qq_callS (bc := 0) (bs := 0) (mc := 1) (ms := 6) (as := [.int k, .int (-62), .int 90]) (rest := []) dX5_below_9 (mt_X5_checkRange hp k (-62 : Int32) (90 : Int32) ) rfl kl_X5_36 ks_X5_checkRange ki_X5 kc_X5_checkRange kd_X5_checkRange rfl (by decide) (by decide) (Nat.le_of_ble_eq_true rfl) (fun v hp' hv _ _ => ?_) (fun E hp' zx _ _ => by obtain ⟨rfl, rfl, zf⟩ := zx; exact qq_thr rfl ⟨rfl, (Or.inr ⟨rfl, zg1, zf⟩)⟩)
  obtain ⟨rfl, rfl, zg2⟩ := hv
  have zg21 := zg2.1
  have zg22 := zg2.2
  show qq_Go _ hp 0 0 12 [(0, .ref 80), (1, .int how), (2, .int n), (3, .int k)] [] _ _
  refine qq_iload_n dX5_below_12 rfl 1 rfl ?_
  refine qq_iload_n dX5_below_13 rfl 2 rfl ?_
  refine qq_if_ne (tgt := 23) dX5_below_14 (by decide) (fun zc1 => ?_) (fun zc1 => ?_)
  · refine qq_iload_n dX5_below_23 rfl 2 rfl ?_
    refine qq_i2l dX5_below_24 ?_
    refine qq_iload_n dX5_below_25 rfl 3 rfl ?_
    refine qq_callS (bc := 0) (bs := 0) (mc := 0) (ms := 0) (as := [.long n.toInt64, .int k]) (rest := [.int how]) dX5_below_26 (mt_X1_scaled hp n.toInt64 k) rfl kl_X5_167 ks_X1_scaled ki_X1 kc_X1_scaled kd_X1_scaled rfl (by decide) (by decide) (Nat.le_of_ble_eq_true rfl) (fun v hp' hv _ _ => ?_) (fun E hp' zx _ _ => zx.elim)
    obtain ⟨rfl, rfl⟩ := hv
    show qq_Go _ hp 0 0 29 [(0, .ref 80), (1, .int how), (2, .int n), (3, .int k)] [.long (f_X1_scaled n.toInt64 k), .int how] _ _
    refine qq_callS (bc := 0) (bs := 0) (mc := 0) (ms := 0) (as := [.int how, .long (f_X1_scaled n.toInt64 k)]) (rest := []) dX5_below_29 (mt_X4_countAhead hp how (f_X1_scaled n.toInt64 k) hS.1) rfl kl_X5_149 ks_X4_countAhead ki_X4 kc_X4_countAhead kd_X4_countAhead rfl (by decide) (by decide) (Nat.le_of_ble_eq_true rfl) (fun v hp' hv _ _ => ?_) (fun E hp' zx _ _ => zx.elim)
    obtain ⟨rfl, rfl⟩ := hv
    show qq_Go _ hp 0 0 32 [(0, .ref 80), (1, .int how), (2, .int n), (3, .int k)] [.int (f_X4_countAhead how (f_X1_scaled n.toInt64 k))] _ _
    have ze : r_X5_below how n k S = f_X4_countAhead how (f_X1_scaled n.toInt64 k) := by
      rw [r_X5_below, if_neg zc1]
    exact qq_iret dX5_below_32 rfl rfl ⟨by rw [ze], rfl, zg1, zg2⟩
  · refine qq_ldc2 (v := (-9223372036854775808)) dX5_below_17 kl_X5_165 ?_
    refine qq_goto (tgt := 29) dX5_below_20 (by decide) ?_
    refine qq_callS (bc := 0) (bs := 0) (mc := 0) (ms := 0) (as := [.int how, .long (-9223372036854775808)]) (rest := []) dX5_below_29 (mt_X4_countAhead hp how (-9223372036854775808 : Int64) hS.1) rfl kl_X5_149 ks_X4_countAhead ki_X4 kc_X4_countAhead kd_X4_countAhead rfl (by decide) (by decide) (Nat.le_of_ble_eq_true rfl) (fun v hp' hv _ _ => ?_) (fun E hp' zx _ _ => zx.elim)
    obtain ⟨rfl, rfl⟩ := hv
    show qq_Go _ hp 0 0 32 [(0, .ref 80), (1, .int how), (2, .int n), (3, .int k)] [.int (f_X4_countAhead how (-9223372036854775808))] _ _
    have ze : r_X5_below how n k S = f_X4_countAhead how (-9223372036854775808) := by
      rw [r_X5_below, if_pos zc1]
    exact qq_iret dX5_below_32 rfl rfl ⟨by rw [ze], rfl, zg1, zg2⟩
def r_X5_between (q : Int32) (S : sX) : Int32 := f_X5_liesBetween q
theorem bz_X5_between (q : Int32) (S : sX) : r_X5_between q S = 0 ∨ r_X5_between q S = 1 := by
  unfold r_X5_between
  exact (bz_X5_liesBetween q)
set_option maxRecDepth 4000 in
theorem mt_X5_between (hp : qq_H) (S : sX) (hS : cs_X S hp) (q : Int32)  : qq_Mt mX5_between [.ref 80, .int q] hp 1 6 (fun v hp' => v = some (.int (r_X5_between q S)) ∧ hp = hp' ∧ (¬ q < (f_X4_firstQ 2) ∧ ¬ (f_X4_lastQ 2) < q)) (fun E hp' => hp = hp' ∧ ((E = "java/lang/IllegalArgumentException" ∧ (q < (f_X4_firstQ 2) ∨ (f_X4_lastQ 2) < q)))) := by
  refine qq_met pn_X5 (Nat.le_of_ble_eq_true rfl) (Nat.le_of_ble_eq_true rfl) kc_X5_between ?_
  show qq_Go _ hp 1 6 0 [(0, .ref 80), (1, .int q)] [] _ _
  refine qq_iload_n dX5_between_0 rfl 1 rfl ?_
  refine qq_iconst (v := 2) dX5_between_1 (by decide) ?_
  refine qq_callS (bc := 1) (bs := 6) (mc := 0) (ms := 0) (as := [.int 2]) (rest := [.int q]) dX5_between_2 (mt_X4_firstQ hp (2 : Int32)) rfl kl_X5_155 ks_X4_firstQ ki_X4 kc_X4_firstQ kd_X4_firstQ rfl (by decide) (by decide) (Nat.le_of_ble_eq_true rfl) (fun v hp' hv _ _ => ?_) (fun E hp' zx _ _ => zx.elim)
  obtain ⟨rfl, rfl⟩ := hv
  show qq_Go _ hp 1 6 5 [(0, .ref 80), (1, .int q)] [.int (f_X4_firstQ 2), .int q] _ _
  refine qq_iconst (v := 2) dX5_between_5 (by decide) ?_
  refine qq_callS (bc := 1) (bs := 6) (mc := 0) (ms := 0) (as := [.int 2]) (rest := [.int (f_X4_firstQ 2), .int q]) dX5_between_6 (mt_X4_lastQ hp (2 : Int32)) rfl kl_X5_158 ks_X4_lastQ ki_X4 kc_X4_lastQ kd_X4_lastQ rfl (by decide) (by decide) (Nat.le_of_ble_eq_true rfl) (fun v hp' hv _ _ => ?_) (fun E hp' zx _ _ => zx.elim)
  obtain ⟨rfl, rfl⟩ := hv
  show qq_Go _ hp 1 6 9 [(0, .ref 80), (1, .int q)] [.int (f_X4_lastQ 2), .int (f_X4_firstQ 2), .int q] _ _
  refine qq_callS (bc := 0) (bs := 0) (mc := 1) (ms := 6) (as := [.int q, .int (f_X4_firstQ 2), .int (f_X4_lastQ 2)]) (rest := []) dX5_between_9 (mt_X5_checkRange hp q (f_X4_firstQ 2) (f_X4_lastQ 2) ) rfl kl_X5_36 ks_X5_checkRange ki_X5 kc_X5_checkRange kd_X5_checkRange rfl (by decide) (by decide) (Nat.le_of_ble_eq_true rfl) (fun v hp' hv _ _ => ?_) (fun E hp' zx _ _ => by obtain ⟨rfl, rfl, zf⟩ := zx; exact qq_thr rfl ⟨rfl, ⟨rfl, zf⟩⟩)
  obtain ⟨rfl, rfl, zg1⟩ := hv
  have zg11 := zg1.1
  have zg12 := zg1.2
  show qq_Go _ hp 0 0 12 [(0, .ref 80), (1, .int q)] [] _ _
  refine qq_iload_n dX5_between_12 rfl 1 rfl ?_
  refine qq_callS (bc := 0) (bs := 0) (mc := 0) (ms := 0) (as := [.int q]) (rest := []) dX5_between_13 (mt_X5_liesBetween hp q hS.1) rfl kl_X5_174 ks_X5_liesBetween ki_X5 kc_X5_liesBetween kd_X5_liesBetween rfl (by decide) (by decide) (Nat.le_of_ble_eq_true rfl) (fun v hp' hv _ _ => ?_) (fun E hp' zx _ _ => zx.elim)
  obtain ⟨rfl, rfl⟩ := hv
  show qq_Go _ hp 0 0 16 [(0, .ref 80), (1, .int q)] [.int (f_X5_liesBetween q)] _ _
  have ze : r_X5_between q S = f_X5_liesBetween q := by
    rw [r_X5_between]
  exact qq_iret dX5_between_16 rfl (qq_nz (bz_X5_liesBetween q)) ⟨by rw [ze], rfl, zg1⟩
def r_X5_lies (q : Int32) (S : sX) : Int32 := f_X5_liesUnderQuarter q
theorem bz_X5_lies (q : Int32) (S : sX) : r_X5_lies q S = 0 ∨ r_X5_lies q S = 1 := by
  unfold r_X5_lies
  exact (bz_X5_liesUnderQuarter q)
set_option maxRecDepth 4000 in
theorem mt_X5_lies (hp : qq_H) (S : sX) (hS : cs_X S hp) (q : Int32)  : qq_Mt mX5_lies [.ref 80, .int q] hp 1 6 (fun v hp' => v = some (.int (r_X5_lies q S)) ∧ hp = hp' ∧ (¬ q < (f_X4_firstQ 3) ∧ ¬ (f_X4_lastQ 3) < q)) (fun E hp' => hp = hp' ∧ ((E = "java/lang/IllegalArgumentException" ∧ (q < (f_X4_firstQ 3) ∨ (f_X4_lastQ 3) < q)))) := by
  refine qq_met pn_X5 (Nat.le_of_ble_eq_true rfl) (Nat.le_of_ble_eq_true rfl) kc_X5_lies ?_
  show qq_Go _ hp 1 6 0 [(0, .ref 80), (1, .int q)] [] _ _
  refine qq_iload_n dX5_lies_0 rfl 1 rfl ?_
  refine qq_iconst (v := 3) dX5_lies_1 (by decide) ?_
  refine qq_callS (bc := 1) (bs := 6) (mc := 0) (ms := 0) (as := [.int 3]) (rest := [.int q]) dX5_lies_2 (mt_X4_firstQ hp (3 : Int32)) rfl kl_X5_155 ks_X4_firstQ ki_X4 kc_X4_firstQ kd_X4_firstQ rfl (by decide) (by decide) (Nat.le_of_ble_eq_true rfl) (fun v hp' hv _ _ => ?_) (fun E hp' zx _ _ => zx.elim)
  obtain ⟨rfl, rfl⟩ := hv
  show qq_Go _ hp 1 6 5 [(0, .ref 80), (1, .int q)] [.int (f_X4_firstQ 3), .int q] _ _
  refine qq_iconst (v := 3) dX5_lies_5 (by decide) ?_
  refine qq_callS (bc := 1) (bs := 6) (mc := 0) (ms := 0) (as := [.int 3]) (rest := [.int (f_X4_firstQ 3), .int q]) dX5_lies_6 (mt_X4_lastQ hp (3 : Int32)) rfl kl_X5_158 ks_X4_lastQ ki_X4 kc_X4_lastQ kd_X4_lastQ rfl (by decide) (by decide) (Nat.le_of_ble_eq_true rfl) (fun v hp' hv _ _ => ?_) (fun E hp' zx _ _ => zx.elim)
  obtain ⟨rfl, rfl⟩ := hv
  show qq_Go _ hp 1 6 9 [(0, .ref 80), (1, .int q)] [.int (f_X4_lastQ 3), .int (f_X4_firstQ 3), .int q] _ _
  refine qq_callS (bc := 0) (bs := 0) (mc := 1) (ms := 6) (as := [.int q, .int (f_X4_firstQ 3), .int (f_X4_lastQ 3)]) (rest := []) dX5_lies_9 (mt_X5_checkRange hp q (f_X4_firstQ 3) (f_X4_lastQ 3) ) rfl kl_X5_36 ks_X5_checkRange ki_X5 kc_X5_checkRange kd_X5_checkRange rfl (by decide) (by decide) (Nat.le_of_ble_eq_true rfl) (fun v hp' hv _ _ => ?_) (fun E hp' zx _ _ => by obtain ⟨rfl, rfl, zf⟩ := zx; exact qq_thr rfl ⟨rfl, ⟨rfl, zf⟩⟩)
  obtain ⟨rfl, rfl, zg1⟩ := hv
  have zg11 := zg1.1
  have zg12 := zg1.2
  show qq_Go _ hp 0 0 12 [(0, .ref 80), (1, .int q)] [] _ _
  refine qq_iload_n dX5_lies_12 rfl 1 rfl ?_
  refine qq_callS (bc := 0) (bs := 0) (mc := 0) (ms := 0) (as := [.int q]) (rest := []) dX5_lies_13 (mt_X5_liesUnderQuarter hp q hS.1) rfl kl_X5_177 ks_X5_liesUnderQuarter ki_X5 kc_X5_liesUnderQuarter kd_X5_liesUnderQuarter rfl (by decide) (by decide) (Nat.le_of_ble_eq_true rfl) (fun v hp' hv _ _ => ?_) (fun E hp' zx _ _ => zx.elim)
  obtain ⟨rfl, rfl⟩ := hv
  show qq_Go _ hp 0 0 16 [(0, .ref 80), (1, .int q)] [.int (f_X5_liesUnderQuarter q)] _ _
  have ze : r_X5_lies q S = f_X5_liesUnderQuarter q := by
    rw [r_X5_lies]
  exact qq_iret dX5_lies_16 rfl (qq_nz (bz_X5_liesUnderQuarter q)) ⟨by rw [ze], rfl, zg1⟩
def r_X5_comesBack (q : Int32) (S : sX) : Int32 := f_X5_areWithin (f_X2_make 5 q) (f_X2_quarters q)
theorem bz_X5_comesBack (q : Int32) (S : sX) : r_X5_comesBack q S = 0 ∨ r_X5_comesBack q S = 1 := by
  unfold r_X5_comesBack
  exact (bz_X5_areWithin (f_X2_make 5 q) (f_X2_quarters q))
set_option maxRecDepth 4000 in
theorem mt_X5_comesBack (hp : qq_H) (S : sX) (hS : cs_X S hp) (q : Int32)  : qq_Mt mX5_comesBack [.ref 80, .int q] hp 1 6 (fun v hp' => v = some (.int (r_X5_comesBack q S)) ∧ hp = hp' ∧ (¬ q < -32 ∧ ¬ -5 < q)) (fun E hp' => hp = hp' ∧ ((E = "java/lang/IllegalArgumentException" ∧ (q < -32 ∨ -5 < q)))) := by
  refine qq_met pn_X5 (Nat.le_of_ble_eq_true rfl) (Nat.le_of_ble_eq_true rfl) kc_X5_comesBack ?_
  show qq_Go _ hp 1 6 0 [(0, .ref 80), (1, .int q)] [] _ _
  refine qq_iload_n dX5_comesBack_0 rfl 1 rfl ?_
  refine qq_bipush (v := (-32)) dX5_comesBack_1 (by decide) ?_
  refine qq_bipush (v := (-5)) dX5_comesBack_3 (by decide) ?_
  refine qq_callS (bc := 0) (bs := 0) (mc := 1) (ms := 6) (as := [.int q, .int (-32), .int (-5)]) (rest := []) dX5_comesBack_5 (mt_X5_checkRange hp q (-32 : Int32) (-5 : Int32) ) rfl kl_X5_36 ks_X5_checkRange ki_X5 kc_X5_checkRange kd_X5_checkRange rfl (by decide) (by decide) (Nat.le_of_ble_eq_true rfl) (fun v hp' hv _ _ => ?_) (fun E hp' zx _ _ => by obtain ⟨rfl, rfl, zf⟩ := zx; exact qq_thr rfl ⟨rfl, ⟨rfl, zf⟩⟩)
  obtain ⟨rfl, rfl, zg1⟩ := hv
  have zg11 := zg1.1
  have zg12 := zg1.2
  show qq_Go _ hp 0 0 8 [(0, .ref 80), (1, .int q)] [] _ _
  refine qq_iconst (v := 5) dX5_comesBack_8 (by decide) ?_
  refine qq_iload_n dX5_comesBack_9 rfl 1 rfl ?_
  refine qq_callS (bc := 0) (bs := 0) (mc := 0) (ms := 0) (as := [.int 5, .int q]) (rest := []) dX5_comesBack_10 (mt_X2_make hp (5 : Int32) q) rfl kl_X5_180 ks_X2_make ki_X2 kc_X2_make kd_X2_make rfl (by decide) (by decide) (Nat.le_of_ble_eq_true rfl) (fun v hp' hv _ _ => ?_) (fun E hp' zx _ _ => zx.elim)
  obtain ⟨rfl, rfl⟩ := hv
  show qq_Go _ hp 0 0 13 [(0, .ref 80), (1, .int q)] [.int (f_X2_make 5 q)] _ _
  refine qq_iload_n dX5_comesBack_13 rfl 1 rfl ?_
  refine qq_callS (bc := 0) (bs := 0) (mc := 0) (ms := 0) (as := [.int q]) (rest := [.int (f_X2_make 5 q)]) dX5_comesBack_14 (mt_X2_quarters hp q) rfl kl_X5_40 ks_X2_quarters ki_X2 kc_X2_quarters kd_X2_quarters rfl (by decide) (by decide) (Nat.le_of_ble_eq_true rfl) (fun v hp' hv _ _ => ?_) (fun E hp' zx _ _ => zx.elim)
  obtain ⟨rfl, rfl⟩ := hv
  show qq_Go _ hp 0 0 17 [(0, .ref 80), (1, .int q)] [.int (f_X2_quarters q), .int (f_X2_make 5 q)] _ _
  refine qq_callS (bc := 0) (bs := 0) (mc := 0) (ms := 0) (as := [.int (f_X2_make 5 q), .int (f_X2_quarters q)]) (rest := []) dX5_comesBack_17 (mt_X5_areWithin hp (f_X2_make 5 q) (f_X2_quarters q) hS.1) rfl kl_X5_143 ks_X5_areWithin ki_X5 kc_X5_areWithin kd_X5_areWithin rfl (by decide) (by decide) (Nat.le_of_ble_eq_true rfl) (fun v hp' hv _ _ => ?_) (fun E hp' zx _ _ => zx.elim)
  obtain ⟨rfl, rfl⟩ := hv
  show qq_Go _ hp 0 0 20 [(0, .ref 80), (1, .int q)] [.int (f_X5_areWithin (f_X2_make 5 q) (f_X2_quarters q))] _ _
  have ze : r_X5_comesBack q S = f_X5_areWithin (f_X2_make 5 q) (f_X2_quarters q) := by
    rw [r_X5_comesBack]
  exact qq_iret dX5_comesBack_20 rfl (qq_nz (bz_X5_areWithin (f_X2_make 5 q) (f_X2_quarters q))) ⟨by rw [ze], rfl, zg1⟩
def r_X5_undone (q : Int32) (S : sX) : Int32 := if (f_X0_change 3 (f_X0_change 2 (f_X2_quarters q))) = (-1) then 0 else if (f_X1_digitsOf (f_X0_change 3 (f_X0_change 2 (f_X2_quarters q)))) = (f_X1_digitsOf (f_X2_quarters q)) then 1 else 0
theorem bz_X5_undone (q : Int32) (S : sX) : r_X5_undone q S = 0 ∨ r_X5_undone q S = 1 := by
  unfold r_X5_undone
  exact (qq_i01 (Or.inl rfl) (qq_i01 (Or.inr rfl) (Or.inl rfl)))
set_option maxRecDepth 4000 in
theorem mt_X5_undone (hp : qq_H) (S : sX) (hS : cs_X S hp) (q : Int32)  : qq_Mt mX5_undone [.ref 80, .int q] hp 1 6 (fun v hp' => v = some (.int (r_X5_undone q S)) ∧ hp = hp' ∧ (¬ q < -4 ∧ ¬ 144 < q)) (fun E hp' => hp = hp' ∧ ((E = "java/lang/IllegalArgumentException" ∧ (q < -4 ∨ 144 < q)))) := by
  refine qq_met pn_X5 (Nat.le_of_ble_eq_true rfl) (Nat.le_of_ble_eq_true rfl) kc_X5_undone ?_
  show qq_Go _ hp 1 6 0 [(0, .ref 80), (1, .int q)] [] _ _
  refine qq_iload_n dX5_undone_0 rfl 1 rfl ?_
  refine qq_bipush (v := (-4)) dX5_undone_1 (by decide) ?_
  refine qq_sipush (v := 144) dX5_undone_3 (by decide) ?_
  refine qq_callS (bc := 0) (bs := 0) (mc := 1) (ms := 6) (as := [.int q, .int (-4), .int 144]) (rest := []) dX5_undone_6 (mt_X5_checkRange hp q (-4 : Int32) (144 : Int32) ) rfl kl_X5_36 ks_X5_checkRange ki_X5 kc_X5_checkRange kd_X5_checkRange rfl (by decide) (by decide) (Nat.le_of_ble_eq_true rfl) (fun v hp' hv _ _ => ?_) (fun E hp' zx _ _ => by obtain ⟨rfl, rfl, zf⟩ := zx; exact qq_thr rfl ⟨rfl, ⟨rfl, zf⟩⟩)
  obtain ⟨rfl, rfl, zg1⟩ := hv
  have zg11 := zg1.1
  have zg12 := zg1.2
  show qq_Go _ hp 0 0 9 [(0, .ref 80), (1, .int q)] [] _ _
  refine qq_iconst (v := 2) dX5_undone_9 (by decide) ?_
  refine qq_iload_n dX5_undone_10 rfl 1 rfl ?_
  refine qq_callS (bc := 0) (bs := 0) (mc := 0) (ms := 0) (as := [.int q]) (rest := [.int 2]) dX5_undone_11 (mt_X2_quarters hp q) rfl kl_X5_40 ks_X2_quarters ki_X2 kc_X2_quarters kd_X2_quarters rfl (by decide) (by decide) (Nat.le_of_ble_eq_true rfl) (fun v hp' hv _ _ => ?_) (fun E hp' zx _ _ => zx.elim)
  obtain ⟨rfl, rfl⟩ := hv
  show qq_Go _ hp 0 0 14 [(0, .ref 80), (1, .int q)] [.int (f_X2_quarters q), .int 2] _ _
  refine qq_callS (bc := 0) (bs := 0) (mc := 0) (ms := 0) (as := [.int 2, .int (f_X2_quarters q)]) (rest := []) dX5_undone_14 (mt_X0_change hp (2 : Int32) (f_X2_quarters q)) rfl kl_X5_87 ks_X0_change ki_X0 kc_X0_change kd_X0_change rfl (by decide) (by decide) (Nat.le_of_ble_eq_true rfl) (fun v hp' hv _ _ => ?_) (fun E hp' zx _ _ => zx.elim)
  obtain ⟨rfl, rfl⟩ := hv
  show qq_Go _ hp 0 0 17 [(0, .ref 80), (1, .int q)] [.int (f_X0_change 2 (f_X2_quarters q))] _ _
  refine qq_istore_n (loc' := [(0, .ref 80), (1, .int q), (2, .int (f_X0_change 2 (f_X2_quarters q)))]) dX5_undone_17 rfl [1, 2, 0] (Nat.le_of_ble_eq_true rfl) rfl ?_
  refine qq_iconst (v := 3) dX5_undone_18 (by decide) ?_
  refine qq_iload_n dX5_undone_19 rfl 2 rfl ?_
  refine qq_callS (bc := 0) (bs := 0) (mc := 0) (ms := 0) (as := [.int 3, .int (f_X0_change 2 (f_X2_quarters q))]) (rest := []) dX5_undone_20 (mt_X0_change hp (3 : Int32) (f_X0_change 2 (f_X2_quarters q))) rfl kl_X5_87 ks_X0_change ki_X0 kc_X0_change kd_X0_change rfl (by decide) (by decide) (Nat.le_of_ble_eq_true rfl) (fun v hp' hv _ _ => ?_) (fun E hp' zx _ _ => zx.elim)
  obtain ⟨rfl, rfl⟩ := hv
  show qq_Go _ hp 0 0 23 [(0, .ref 80), (1, .int q), (2, .int (f_X0_change 2 (f_X2_quarters q)))] [.int (f_X0_change 3 (f_X0_change 2 (f_X2_quarters q)))] _ _
  refine qq_istore_n (loc' := [(0, .ref 80), (1, .int q), (2, .int (f_X0_change 2 (f_X2_quarters q))), (3, .int (f_X0_change 3 (f_X0_change 2 (f_X2_quarters q))))]) dX5_undone_23 rfl [1, 2, 3, 0] (Nat.le_of_ble_eq_true rfl) rfl ?_
  refine qq_iload_n dX5_undone_24 rfl 3 rfl ?_
  refine qq_iconst (v := (-1)) dX5_undone_25 (by decide) ?_
  refine qq_icmp_eq (tgt := 48) dX5_undone_26 (by decide) (fun zc1 => ?_) (fun zc1 => ?_)
  · refine qq_iconst (v := 0) dX5_undone_48 (by decide) ?_
    have ze : r_X5_undone q S = 0 := by
      rw [r_X5_undone, if_pos zc1]
    exact qq_iret dX5_undone_49 rfl rfl ⟨by rw [ze], rfl, zg1⟩
  · refine qq_iload_n dX5_undone_29 rfl 3 rfl ?_
    refine qq_callS (bc := 0) (bs := 0) (mc := 0) (ms := 0) (as := [.int (f_X0_change 3 (f_X0_change 2 (f_X2_quarters q)))]) (rest := []) dX5_undone_30 (mt_X1_digitsOf hp (f_X0_change 3 (f_X0_change 2 (f_X2_quarters q))) hS.1) rfl kl_X5_26 ks_X1_digitsOf ki_X1 kc_X1_digitsOf kd_X1_digitsOf rfl (by decide) (by decide) (Nat.le_of_ble_eq_true rfl) (fun v hp' hv _ _ => ?_) (fun E hp' zx _ _ => zx.elim)
    obtain ⟨rfl, rfl⟩ := hv
    show qq_Go _ hp 0 0 33 [(0, .ref 80), (1, .int q), (2, .int (f_X0_change 2 (f_X2_quarters q))), (3, .int (f_X0_change 3 (f_X0_change 2 (f_X2_quarters q))))] [.long (f_X1_digitsOf (f_X0_change 3 (f_X0_change 2 (f_X2_quarters q))))] _ _
    refine qq_iload_n dX5_undone_33 rfl 1 rfl ?_
    refine qq_callS (bc := 0) (bs := 0) (mc := 0) (ms := 0) (as := [.int q]) (rest := [.long (f_X1_digitsOf (f_X0_change 3 (f_X0_change 2 (f_X2_quarters q))))]) dX5_undone_34 (mt_X2_quarters hp q) rfl kl_X5_40 ks_X2_quarters ki_X2 kc_X2_quarters kd_X2_quarters rfl (by decide) (by decide) (Nat.le_of_ble_eq_true rfl) (fun v hp' hv _ _ => ?_) (fun E hp' zx _ _ => zx.elim)
    obtain ⟨rfl, rfl⟩ := hv
    show qq_Go _ hp 0 0 37 [(0, .ref 80), (1, .int q), (2, .int (f_X0_change 2 (f_X2_quarters q))), (3, .int (f_X0_change 3 (f_X0_change 2 (f_X2_quarters q))))] [.int (f_X2_quarters q), .long (f_X1_digitsOf (f_X0_change 3 (f_X0_change 2 (f_X2_quarters q))))] _ _
    refine qq_callS (bc := 0) (bs := 0) (mc := 0) (ms := 0) (as := [.int (f_X2_quarters q)]) (rest := [.long (f_X1_digitsOf (f_X0_change 3 (f_X0_change 2 (f_X2_quarters q))))]) dX5_undone_37 (mt_X1_digitsOf hp (f_X2_quarters q) hS.1) rfl kl_X5_26 ks_X1_digitsOf ki_X1 kc_X1_digitsOf kd_X1_digitsOf rfl (by decide) (by decide) (Nat.le_of_ble_eq_true rfl) (fun v hp' hv _ _ => ?_) (fun E hp' zx _ _ => zx.elim)
    obtain ⟨rfl, rfl⟩ := hv
    show qq_Go _ hp 0 0 40 [(0, .ref 80), (1, .int q), (2, .int (f_X0_change 2 (f_X2_quarters q))), (3, .int (f_X0_change 3 (f_X0_change 2 (f_X2_quarters q))))] [.long (f_X1_digitsOf (f_X2_quarters q)), .long (f_X1_digitsOf (f_X0_change 3 (f_X0_change 2 (f_X2_quarters q))))] _ _
    refine qq_lc_ne (tgt := 48) dX5_undone_40 dX5_undone_41 (by decide) (fun zc2 => ?_) (fun zc2 => ?_)
    · refine qq_iconst (v := 0) dX5_undone_48 (by decide) ?_
      have ze : r_X5_undone q S = 0 := by
        rw [r_X5_undone, if_neg zc1, if_neg zc2]
      exact qq_iret dX5_undone_49 rfl rfl ⟨by rw [ze], rfl, zg1⟩
    · refine qq_iconst (v := 1) dX5_undone_44 (by decide) ?_
      refine qq_goto (tgt := 49) dX5_undone_45 (by decide) ?_
      have ze : r_X5_undone q S = 1 := by
        rw [r_X5_undone, if_neg zc1, if_pos zc2]
      exact qq_iret dX5_undone_49 rfl rfl ⟨by rw [ze], rfl, zg1⟩
def r_X5_comesForth (q : Int32) (S : sX) : Int32 := if (f_X0_change 2 (f_X0_change 3 (f_X2_quarters q))) = (-1) then 0 else if 2 < (f_X1_steps (f_X1_digitsOf (f_X0_change 2 (f_X0_change 3 (f_X2_quarters q)))) (f_X1_digitsOf (f_X2_quarters q))) then 0 else 1
theorem bz_X5_comesForth (q : Int32) (S : sX) : r_X5_comesForth q S = 0 ∨ r_X5_comesForth q S = 1 := by
  unfold r_X5_comesForth
  exact (qq_i01 (Or.inl rfl) (qq_i01 (Or.inl rfl) (Or.inr rfl)))
set_option maxRecDepth 4000 in
theorem mt_X5_comesForth (hp : qq_H) (S : sX) (hS : cs_X S hp) (q : Int32)  : qq_Mt mX5_comesForth [.ref 80, .int q] hp 1 6 (fun v hp' => v = some (.int (r_X5_comesForth q S)) ∧ hp = hp' ∧ (¬ q < (f_X4_firstQ 3) ∧ ¬ (f_X4_lastQ 3) < q)) (fun E hp' => hp = hp' ∧ ((E = "java/lang/IllegalArgumentException" ∧ (q < (f_X4_firstQ 3) ∨ (f_X4_lastQ 3) < q)))) := by
  refine qq_met pn_X5 (Nat.le_of_ble_eq_true rfl) (Nat.le_of_ble_eq_true rfl) kc_X5_comesForth ?_
  show qq_Go _ hp 1 6 0 [(0, .ref 80), (1, .int q)] [] _ _
  refine qq_iload_n dX5_comesForth_0 rfl 1 rfl ?_
  refine qq_iconst (v := 3) dX5_comesForth_1 (by decide) ?_
  refine qq_callS (bc := 1) (bs := 6) (mc := 0) (ms := 0) (as := [.int 3]) (rest := [.int q]) dX5_comesForth_2 (mt_X4_firstQ hp (3 : Int32)) rfl kl_X5_155 ks_X4_firstQ ki_X4 kc_X4_firstQ kd_X4_firstQ rfl (by decide) (by decide) (Nat.le_of_ble_eq_true rfl) (fun v hp' hv _ _ => ?_) (fun E hp' zx _ _ => zx.elim)
  obtain ⟨rfl, rfl⟩ := hv
  show qq_Go _ hp 1 6 5 [(0, .ref 80), (1, .int q)] [.int (f_X4_firstQ 3), .int q] _ _
  refine qq_iconst (v := 3) dX5_comesForth_5 (by decide) ?_
  refine qq_callS (bc := 1) (bs := 6) (mc := 0) (ms := 0) (as := [.int 3]) (rest := [.int (f_X4_firstQ 3), .int q]) dX5_comesForth_6 (mt_X4_lastQ hp (3 : Int32)) rfl kl_X5_158 ks_X4_lastQ ki_X4 kc_X4_lastQ kd_X4_lastQ rfl (by decide) (by decide) (Nat.le_of_ble_eq_true rfl) (fun v hp' hv _ _ => ?_) (fun E hp' zx _ _ => zx.elim)
  obtain ⟨rfl, rfl⟩ := hv
  show qq_Go _ hp 1 6 9 [(0, .ref 80), (1, .int q)] [.int (f_X4_lastQ 3), .int (f_X4_firstQ 3), .int q] _ _
  refine qq_callS (bc := 0) (bs := 0) (mc := 1) (ms := 6) (as := [.int q, .int (f_X4_firstQ 3), .int (f_X4_lastQ 3)]) (rest := []) dX5_comesForth_9 (mt_X5_checkRange hp q (f_X4_firstQ 3) (f_X4_lastQ 3) ) rfl kl_X5_36 ks_X5_checkRange ki_X5 kc_X5_checkRange kd_X5_checkRange rfl (by decide) (by decide) (Nat.le_of_ble_eq_true rfl) (fun v hp' hv _ _ => ?_) (fun E hp' zx _ _ => by obtain ⟨rfl, rfl, zf⟩ := zx; exact qq_thr rfl ⟨rfl, ⟨rfl, zf⟩⟩)
  obtain ⟨rfl, rfl, zg1⟩ := hv
  have zg11 := zg1.1
  have zg12 := zg1.2
  show qq_Go _ hp 0 0 12 [(0, .ref 80), (1, .int q)] [] _ _
  refine qq_iconst (v := 3) dX5_comesForth_12 (by decide) ?_
  refine qq_iload_n dX5_comesForth_13 rfl 1 rfl ?_
  refine qq_callS (bc := 0) (bs := 0) (mc := 0) (ms := 0) (as := [.int q]) (rest := [.int 3]) dX5_comesForth_14 (mt_X2_quarters hp q) rfl kl_X5_40 ks_X2_quarters ki_X2 kc_X2_quarters kd_X2_quarters rfl (by decide) (by decide) (Nat.le_of_ble_eq_true rfl) (fun v hp' hv _ _ => ?_) (fun E hp' zx _ _ => zx.elim)
  obtain ⟨rfl, rfl⟩ := hv
  show qq_Go _ hp 0 0 17 [(0, .ref 80), (1, .int q)] [.int (f_X2_quarters q), .int 3] _ _
  refine qq_callS (bc := 0) (bs := 0) (mc := 0) (ms := 0) (as := [.int 3, .int (f_X2_quarters q)]) (rest := []) dX5_comesForth_17 (mt_X0_change hp (3 : Int32) (f_X2_quarters q)) rfl kl_X5_87 ks_X0_change ki_X0 kc_X0_change kd_X0_change rfl (by decide) (by decide) (Nat.le_of_ble_eq_true rfl) (fun v hp' hv _ _ => ?_) (fun E hp' zx _ _ => zx.elim)
  obtain ⟨rfl, rfl⟩ := hv
  show qq_Go _ hp 0 0 20 [(0, .ref 80), (1, .int q)] [.int (f_X0_change 3 (f_X2_quarters q))] _ _
  refine qq_istore_n (loc' := [(0, .ref 80), (1, .int q), (2, .int (f_X0_change 3 (f_X2_quarters q)))]) dX5_comesForth_20 rfl [1, 2, 0] (Nat.le_of_ble_eq_true rfl) rfl ?_
  refine qq_iconst (v := 2) dX5_comesForth_21 (by decide) ?_
  refine qq_iload_n dX5_comesForth_22 rfl 2 rfl ?_
  refine qq_callS (bc := 0) (bs := 0) (mc := 0) (ms := 0) (as := [.int 2, .int (f_X0_change 3 (f_X2_quarters q))]) (rest := []) dX5_comesForth_23 (mt_X0_change hp (2 : Int32) (f_X0_change 3 (f_X2_quarters q))) rfl kl_X5_87 ks_X0_change ki_X0 kc_X0_change kd_X0_change rfl (by decide) (by decide) (Nat.le_of_ble_eq_true rfl) (fun v hp' hv _ _ => ?_) (fun E hp' zx _ _ => zx.elim)
  obtain ⟨rfl, rfl⟩ := hv
  show qq_Go _ hp 0 0 26 [(0, .ref 80), (1, .int q), (2, .int (f_X0_change 3 (f_X2_quarters q)))] [.int (f_X0_change 2 (f_X0_change 3 (f_X2_quarters q)))] _ _
  refine qq_istore_n (loc' := [(0, .ref 80), (1, .int q), (2, .int (f_X0_change 3 (f_X2_quarters q))), (3, .int (f_X0_change 2 (f_X0_change 3 (f_X2_quarters q))))]) dX5_comesForth_26 rfl [1, 2, 3, 0] (Nat.le_of_ble_eq_true rfl) rfl ?_
  refine qq_iload_n dX5_comesForth_27 rfl 3 rfl ?_
  refine qq_iconst (v := (-1)) dX5_comesForth_28 (by decide) ?_
  refine qq_icmp_eq (tgt := 57) dX5_comesForth_29 (by decide) (fun zc1 => ?_) (fun zc1 => ?_)
  · refine qq_iconst (v := 0) dX5_comesForth_57 (by decide) ?_
    have ze : r_X5_comesForth q S = 0 := by
      rw [r_X5_comesForth, if_pos zc1]
    exact qq_iret dX5_comesForth_58 rfl rfl ⟨by rw [ze], rfl, zg1⟩
  · refine qq_iload_n dX5_comesForth_32 rfl 3 rfl ?_
    refine qq_callS (bc := 0) (bs := 0) (mc := 0) (ms := 0) (as := [.int (f_X0_change 2 (f_X0_change 3 (f_X2_quarters q)))]) (rest := []) dX5_comesForth_33 (mt_X1_digitsOf hp (f_X0_change 2 (f_X0_change 3 (f_X2_quarters q))) hS.1) rfl kl_X5_26 ks_X1_digitsOf ki_X1 kc_X1_digitsOf kd_X1_digitsOf rfl (by decide) (by decide) (Nat.le_of_ble_eq_true rfl) (fun v hp' hv _ _ => ?_) (fun E hp' zx _ _ => zx.elim)
    obtain ⟨rfl, rfl⟩ := hv
    show qq_Go _ hp 0 0 36 [(0, .ref 80), (1, .int q), (2, .int (f_X0_change 3 (f_X2_quarters q))), (3, .int (f_X0_change 2 (f_X0_change 3 (f_X2_quarters q))))] [.long (f_X1_digitsOf (f_X0_change 2 (f_X0_change 3 (f_X2_quarters q))))] _ _
    refine qq_iload_n dX5_comesForth_36 rfl 1 rfl ?_
    refine qq_callS (bc := 0) (bs := 0) (mc := 0) (ms := 0) (as := [.int q]) (rest := [.long (f_X1_digitsOf (f_X0_change 2 (f_X0_change 3 (f_X2_quarters q))))]) dX5_comesForth_37 (mt_X2_quarters hp q) rfl kl_X5_40 ks_X2_quarters ki_X2 kc_X2_quarters kd_X2_quarters rfl (by decide) (by decide) (Nat.le_of_ble_eq_true rfl) (fun v hp' hv _ _ => ?_) (fun E hp' zx _ _ => zx.elim)
    obtain ⟨rfl, rfl⟩ := hv
    show qq_Go _ hp 0 0 40 [(0, .ref 80), (1, .int q), (2, .int (f_X0_change 3 (f_X2_quarters q))), (3, .int (f_X0_change 2 (f_X0_change 3 (f_X2_quarters q))))] [.int (f_X2_quarters q), .long (f_X1_digitsOf (f_X0_change 2 (f_X0_change 3 (f_X2_quarters q))))] _ _
    refine qq_callS (bc := 0) (bs := 0) (mc := 0) (ms := 0) (as := [.int (f_X2_quarters q)]) (rest := [.long (f_X1_digitsOf (f_X0_change 2 (f_X0_change 3 (f_X2_quarters q))))]) dX5_comesForth_40 (mt_X1_digitsOf hp (f_X2_quarters q) hS.1) rfl kl_X5_26 ks_X1_digitsOf ki_X1 kc_X1_digitsOf kd_X1_digitsOf rfl (by decide) (by decide) (Nat.le_of_ble_eq_true rfl) (fun v hp' hv _ _ => ?_) (fun E hp' zx _ _ => zx.elim)
    obtain ⟨rfl, rfl⟩ := hv
    show qq_Go _ hp 0 0 43 [(0, .ref 80), (1, .int q), (2, .int (f_X0_change 3 (f_X2_quarters q))), (3, .int (f_X0_change 2 (f_X0_change 3 (f_X2_quarters q))))] [.long (f_X1_digitsOf (f_X2_quarters q)), .long (f_X1_digitsOf (f_X0_change 2 (f_X0_change 3 (f_X2_quarters q))))] _ _
    refine qq_callS (bc := 0) (bs := 0) (mc := 0) (ms := 0) (as := [.long (f_X1_digitsOf (f_X0_change 2 (f_X0_change 3 (f_X2_quarters q)))), .long (f_X1_digitsOf (f_X2_quarters q))]) (rest := []) dX5_comesForth_43 (mt_X1_steps hp (f_X1_digitsOf (f_X0_change 2 (f_X0_change 3 (f_X2_quarters q)))) (f_X1_digitsOf (f_X2_quarters q))) rfl kl_X5_183 ks_X1_steps ki_X1 kc_X1_steps kd_X1_steps rfl (by decide) (by decide) (Nat.le_of_ble_eq_true rfl) (fun v hp' hv _ _ => ?_) (fun E hp' zx _ _ => zx.elim)
    obtain ⟨rfl, rfl⟩ := hv
    show qq_Go _ hp 0 0 46 [(0, .ref 80), (1, .int q), (2, .int (f_X0_change 3 (f_X2_quarters q))), (3, .int (f_X0_change 2 (f_X0_change 3 (f_X2_quarters q))))] [.long (f_X1_steps (f_X1_digitsOf (f_X0_change 2 (f_X0_change 3 (f_X2_quarters q)))) (f_X1_digitsOf (f_X2_quarters q)))] _ _
    refine qq_ldc2 (v := 2) dX5_comesForth_46 kl_X5_187 ?_
    refine qq_lc_gt (tgt := 57) dX5_comesForth_49 dX5_comesForth_50 (by decide) (fun zc2 => ?_) (fun zc2 => ?_)
    · refine qq_iconst (v := 0) dX5_comesForth_57 (by decide) ?_
      have ze : r_X5_comesForth q S = 0 := by
        rw [r_X5_comesForth, if_neg zc1, if_pos zc2]
      exact qq_iret dX5_comesForth_58 rfl rfl ⟨by rw [ze], rfl, zg1⟩
    · refine qq_iconst (v := 1) dX5_comesForth_53 (by decide) ?_
      refine qq_goto (tgt := 58) dX5_comesForth_54 (by decide) ?_
      have ze : r_X5_comesForth q S = 1 := by
        rw [r_X5_comesForth, if_neg zc1, if_neg zc2]
      exact qq_iret dX5_comesForth_58 rfl rfl ⟨by rw [ze], rfl, zg1⟩
def r_X5_knock  (S : sX) : Int32 × sX := (S.2.2.2.2.2 + 1, (S.1, S.2.1, S.2.2.1, S.2.2.2.1, S.2.2.2.2.1, S.2.2.2.2.2 + 1))
set_option maxRecDepth 4000 in
theorem mt_X5_knock (hp : qq_H) (S : sX) (hS : cs_X S hp)   : qq_Mt mX5_knock [.ref 80] hp 0 0 (fun v hp' => v = some (.int ((r_X5_knock S).1)) ∧ cs_X ((r_X5_knock S).2) hp' ∧ sm_X hp hp') (fun _ _ => False) := by
  refine qq_met pn_X5 (Nat.le_of_ble_eq_true rfl) (Nat.le_of_ble_eq_true rfl) kc_X5_knock ?_
  show qq_Go _ hp 0 0 0 [(0, .ref 80)] [] _ _
  refine qq_aload_n dX5_knock_0 rfl 0 rfl ?_
  refine qq_dup dX5_knock_1 rfl ?_
  refine cx_get hS dX5_knock_2 5 (by decide) rfl kl_X5_206 ?_
  refine qq_iconst (v := 1) dX5_knock_5 (by decide) ?_
  refine qq_iadd dX5_knock_6 ?_
  refine cx_put5 hS dX5_knock_7 kl_X5_206 (fun hp1 hS1 sM1 => ?_)
  replace hS1 : cs_X (S.1, S.2.1, S.2.2.1, S.2.2.2.1, S.2.2.2.2.1, S.2.2.2.2.2 + 1) hp1 := hS1
  refine qq_aload_n dX5_knock_10 rfl 0 rfl ?_
  refine cx_get hS1 dX5_knock_11 5 (by decide) rfl kl_X5_206 ?_
  have ze : r_X5_knock S = (S.2.2.2.2.2 + 1, (S.1, S.2.1, S.2.2.1, S.2.2.2.1, S.2.2.2.2.1, S.2.2.2.2.2 + 1)) := by
    rw [r_X5_knock]
  exact qq_iret dX5_knock_14 rfl rfl ⟨by rw [ze], by rw [ze]; exact hS1, sM1⟩
def r_X5_isPairSound (a : Int32) (b : Int32) (S : sX) : Int32 := if (f_X2_areNear (S.1 a.toNatClampNeg) (S.1 b.toNatClampNeg)) = 0 then if (r_X5_compareCells a b S) = (-(r_X5_compareCells b a S)) then if (r_X5_compareCells a b S) = 0 then if (S.1 a.toNatClampNeg) = (S.1 b.toNatClampNeg) then 1 else 0 else if (S.1 a.toNatClampNeg) = (S.1 b.toNatClampNeg) then 0 else 1 else 0 else f_X5_areWithin (S.1 a.toNatClampNeg) (S.1 b.toNatClampNeg)
theorem bz_X5_isPairSound (a : Int32) (b : Int32) (S : sX) : r_X5_isPairSound a b S = 0 ∨ r_X5_isPairSound a b S = 1 := by
  unfold r_X5_isPairSound
  exact (qq_i01 (qq_i01 (qq_i01 (qq_i01 (Or.inr rfl) (Or.inl rfl)) (qq_i01 (Or.inl rfl) (Or.inr rfl))) (Or.inl rfl)) (bz_X5_areWithin (S.1 a.toNatClampNeg) (S.1 b.toNatClampNeg)))
set_option maxRecDepth 4000 in
theorem mt_X5_isPairSound (hp : qq_H) (S : sX) (hS : cs_X S hp) (a : Int32) (b : Int32) (zi : vp_in a 8) (zj : vp_in b 8) : qq_Mt mX5_isPairSound [.ref 80, .int a, .int b] hp 0 0 (fun v hp' => v = some (.int (r_X5_isPairSound a b S)) ∧ hp = hp') (fun _ _ => False) := by
  refine qq_met pn_X5 (Nat.le_of_ble_eq_true rfl) (Nat.le_of_ble_eq_true rfl) kc_X5_isPairSound ?_
  show qq_Go _ hp 0 0 0 [(0, .ref 80), (1, .int a), (2, .int b)] [] _ _
  refine qq_aload_n dX5_isPairSound_0 rfl 0 rfl ?_
  refine cx_get hS dX5_isPairSound_1 0 (by decide) rfl kl_X5_9 ?_
  refine qq_iload_n dX5_isPairSound_4 rfl 1 rfl ?_
  refine qq_iald dX5_isPairSound_5 hS.2.2.2.1 (by first | assumption | exact qm_in8 (by assumption) (by assumption) | exact qm_in8d (by assumption) (by assumption) | decide) ?_
  refine qq_aload_n dX5_isPairSound_6 rfl 0 rfl ?_
  refine cx_get hS dX5_isPairSound_7 0 (by decide) rfl kl_X5_9 ?_
  refine qq_iload_n dX5_isPairSound_10 rfl 2 rfl ?_
  refine qq_iald dX5_isPairSound_11 hS.2.2.2.1 (by first | assumption | exact qm_in8 (by assumption) (by assumption) | exact qm_in8d (by assumption) (by assumption) | decide) ?_
  refine qq_callS (bc := 0) (bs := 0) (mc := 0) (ms := 0) (as := [.int (S.1 a.toNatClampNeg), .int (S.1 b.toNatClampNeg)]) (rest := []) dX5_isPairSound_12 (mt_X2_areNear hp (S.1 a.toNatClampNeg) (S.1 b.toNatClampNeg)) rfl kl_X5_133 ks_X2_areNear ki_X2 kc_X2_areNear kd_X2_areNear rfl (by decide) (by decide) (Nat.le_of_ble_eq_true rfl) (fun v hp' hv _ _ => ?_) (fun E hp' zx _ _ => zx.elim)
  obtain ⟨rfl, rfl⟩ := hv
  show qq_Go _ hp 0 0 15 [(0, .ref 80), (1, .int a), (2, .int b)] [.int (f_X2_areNear (S.1 a.toNatClampNeg) (S.1 b.toNatClampNeg))] _ _
  refine qq_if_eq (tgt := 34) dX5_isPairSound_15 (by decide) (fun zc1 => ?_) (fun zc1 => ?_)
  · refine qq_aload_n dX5_isPairSound_34 rfl 0 rfl ?_
    refine qq_iload_n dX5_isPairSound_35 rfl 1 rfl ?_
    refine qq_iload_n dX5_isPairSound_36 rfl 2 rfl ?_
    refine qq_callV (bc := 0) (bs := 0) (mc := 0) (ms := 0) (o := 80) (ci := 2) (N := 6) (T := TX5) (as := [.int a, .int b]) (rest := []) dX5_isPairSound_37 hS.2.2.1 (by decide) rfl (mt_X5_compareCells hp S hS a b (by first | assumption | exact ⟨by assumption, by assumption⟩ | exact qm_in8 (by assumption) (by assumption) | exact ⟨by assumption, qm_len (by assumption)⟩ | exact qm_in8d (by assumption) (by assumption) | decide) (by first | assumption | exact ⟨by assumption, by assumption⟩ | exact qm_in8 (by assumption) (by assumption) | exact ⟨by assumption, qm_len (by assumption)⟩ | exact qm_in8d (by assumption) (by assumption) | decide)) rfl kl_X5_90 kn_X5_compareCells ke_X5_compareCells ki_X5 kc_X5_compareCells kd_X5_compareCells rfl (by decide) (by decide) (Nat.le_of_ble_eq_true rfl) (fun v hp' hv _ _ => ?_) (fun E hp' zx _ _ => zx.elim)
    obtain ⟨rfl, rfl⟩ := hv
    show qq_Go _ hp 0 0 40 [(0, .ref 80), (1, .int a), (2, .int b)] [.int (r_X5_compareCells a b S)] _ _
    refine qq_istore_n (loc' := [(0, .ref 80), (1, .int a), (2, .int b), (3, .int (r_X5_compareCells a b S))]) dX5_isPairSound_40 rfl [1, 2, 3, 0] (Nat.le_of_ble_eq_true rfl) rfl ?_
    refine qq_iload_n dX5_isPairSound_41 rfl 3 rfl ?_
    refine qq_aload_n dX5_isPairSound_42 rfl 0 rfl ?_
    refine qq_iload_n dX5_isPairSound_43 rfl 2 rfl ?_
    refine qq_iload_n dX5_isPairSound_44 rfl 1 rfl ?_
    refine qq_callV (bc := 0) (bs := 0) (mc := 0) (ms := 0) (o := 80) (ci := 2) (N := 6) (T := TX5) (as := [.int b, .int a]) (rest := [.int (r_X5_compareCells a b S)]) dX5_isPairSound_45 hS.2.2.1 (by decide) rfl (mt_X5_compareCells hp S hS b a (by first | assumption | exact ⟨by assumption, by assumption⟩ | exact qm_in8 (by assumption) (by assumption) | exact ⟨by assumption, qm_len (by assumption)⟩ | exact qm_in8d (by assumption) (by assumption) | decide) (by first | assumption | exact ⟨by assumption, by assumption⟩ | exact qm_in8 (by assumption) (by assumption) | exact ⟨by assumption, qm_len (by assumption)⟩ | exact qm_in8d (by assumption) (by assumption) | decide)) rfl kl_X5_90 kn_X5_compareCells ke_X5_compareCells ki_X5 kc_X5_compareCells kd_X5_compareCells rfl (by decide) (by decide) (Nat.le_of_ble_eq_true rfl) (fun v hp' hv _ _ => ?_) (fun E hp' zx _ _ => zx.elim)
    obtain ⟨rfl, rfl⟩ := hv
    show qq_Go _ hp 0 0 48 [(0, .ref 80), (1, .int a), (2, .int b), (3, .int (r_X5_compareCells a b S))] [.int (r_X5_compareCells b a S), .int (r_X5_compareCells a b S)] _ _
    refine qq_ineg dX5_isPairSound_48 ?_
    refine qq_icmp_ne (tgt := 88) dX5_isPairSound_49 (by decide) (fun zc2 => ?_) (fun zc2 => ?_)
    · refine qq_iconst (v := 0) dX5_isPairSound_88 (by decide) ?_
      have ze : r_X5_isPairSound a b S = 0 := by
        rw [r_X5_isPairSound, if_pos zc1, if_neg zc2]
      exact qq_iret dX5_isPairSound_89 rfl rfl ⟨by rw [ze], rfl⟩
    · refine qq_iload_n dX5_isPairSound_52 rfl 3 rfl ?_
      refine qq_if_ne (tgt := 60) dX5_isPairSound_53 (by decide) (fun zc3 => ?_) (fun zc3 => ?_)
      · refine qq_iconst (v := 0) dX5_isPairSound_60 (by decide) ?_
        refine qq_aload_n dX5_isPairSound_61 rfl 0 rfl ?_
        refine cx_get hS dX5_isPairSound_62 0 (by decide) rfl kl_X5_9 ?_
        refine qq_iload_n dX5_isPairSound_65 rfl 1 rfl ?_
        refine qq_iald dX5_isPairSound_66 hS.2.2.2.1 (by first | assumption | exact qm_in8 (by assumption) (by assumption) | exact qm_in8d (by assumption) (by assumption) | decide) ?_
        refine qq_aload_n dX5_isPairSound_67 rfl 0 rfl ?_
        refine cx_get hS dX5_isPairSound_68 0 (by decide) rfl kl_X5_9 ?_
        refine qq_iload_n dX5_isPairSound_71 rfl 2 rfl ?_
        refine qq_iald dX5_isPairSound_72 hS.2.2.2.1 (by first | assumption | exact qm_in8 (by assumption) (by assumption) | exact qm_in8d (by assumption) (by assumption) | decide) ?_
        refine qq_icmp_ne (tgt := 80) dX5_isPairSound_73 (by decide) (fun zc4 => ?_) (fun zc4 => ?_)
        · refine qq_iconst (v := 0) dX5_isPairSound_80 (by decide) ?_
          refine qq_icmp_ne (tgt := 88) dX5_isPairSound_81 (by decide) (fun z => absurd z (by decide)) (fun _ => ?_)
          refine qq_iconst (v := 1) dX5_isPairSound_84 (by decide) ?_
          refine qq_goto (tgt := 89) dX5_isPairSound_85 (by decide) ?_
          have ze : r_X5_isPairSound a b S = 1 := by
            rw [r_X5_isPairSound, if_pos zc1, if_pos zc2, if_neg zc3, if_neg zc4]
          exact qq_iret dX5_isPairSound_89 rfl rfl ⟨by rw [ze], rfl⟩
        · refine qq_iconst (v := 1) dX5_isPairSound_76 (by decide) ?_
          refine qq_goto (tgt := 81) dX5_isPairSound_77 (by decide) ?_
          refine qq_icmp_ne (tgt := 88) dX5_isPairSound_81 (by decide) (fun _ => ?_) (fun z => absurd z (by decide))
          refine qq_iconst (v := 0) dX5_isPairSound_88 (by decide) ?_
          have ze : r_X5_isPairSound a b S = 0 := by
            rw [r_X5_isPairSound, if_pos zc1, if_pos zc2, if_neg zc3, if_pos zc4]
          exact qq_iret dX5_isPairSound_89 rfl rfl ⟨by rw [ze], rfl⟩
      · refine qq_iconst (v := 1) dX5_isPairSound_56 (by decide) ?_
        refine qq_goto (tgt := 61) dX5_isPairSound_57 (by decide) ?_
        refine qq_aload_n dX5_isPairSound_61 rfl 0 rfl ?_
        refine cx_get hS dX5_isPairSound_62 0 (by decide) rfl kl_X5_9 ?_
        refine qq_iload_n dX5_isPairSound_65 rfl 1 rfl ?_
        refine qq_iald dX5_isPairSound_66 hS.2.2.2.1 (by first | assumption | exact qm_in8 (by assumption) (by assumption) | exact qm_in8d (by assumption) (by assumption) | decide) ?_
        refine qq_aload_n dX5_isPairSound_67 rfl 0 rfl ?_
        refine cx_get hS dX5_isPairSound_68 0 (by decide) rfl kl_X5_9 ?_
        refine qq_iload_n dX5_isPairSound_71 rfl 2 rfl ?_
        refine qq_iald dX5_isPairSound_72 hS.2.2.2.1 (by first | assumption | exact qm_in8 (by assumption) (by assumption) | exact qm_in8d (by assumption) (by assumption) | decide) ?_
        refine qq_icmp_ne (tgt := 80) dX5_isPairSound_73 (by decide) (fun zc5 => ?_) (fun zc5 => ?_)
        · refine qq_iconst (v := 0) dX5_isPairSound_80 (by decide) ?_
          refine qq_icmp_ne (tgt := 88) dX5_isPairSound_81 (by decide) (fun _ => ?_) (fun z => absurd z (by decide))
          refine qq_iconst (v := 0) dX5_isPairSound_88 (by decide) ?_
          have ze : r_X5_isPairSound a b S = 0 := by
            rw [r_X5_isPairSound, if_pos zc1, if_pos zc2, if_pos zc3, if_neg zc5]
          exact qq_iret dX5_isPairSound_89 rfl rfl ⟨by rw [ze], rfl⟩
        · refine qq_iconst (v := 1) dX5_isPairSound_76 (by decide) ?_
          refine qq_goto (tgt := 81) dX5_isPairSound_77 (by decide) ?_
          refine qq_icmp_ne (tgt := 88) dX5_isPairSound_81 (by decide) (fun z => absurd z (by decide)) (fun _ => ?_)
          refine qq_iconst (v := 1) dX5_isPairSound_84 (by decide) ?_
          refine qq_goto (tgt := 89) dX5_isPairSound_85 (by decide) ?_
          have ze : r_X5_isPairSound a b S = 1 := by
            rw [r_X5_isPairSound, if_pos zc1, if_pos zc2, if_pos zc3, if_pos zc5]
          exact qq_iret dX5_isPairSound_89 rfl rfl ⟨by rw [ze], rfl⟩
  · refine qq_aload_n dX5_isPairSound_18 rfl 0 rfl ?_
    refine cx_get hS dX5_isPairSound_19 0 (by decide) rfl kl_X5_9 ?_
    refine qq_iload_n dX5_isPairSound_22 rfl 1 rfl ?_
    refine qq_iald dX5_isPairSound_23 hS.2.2.2.1 (by first | assumption | exact qm_in8 (by assumption) (by assumption) | exact qm_in8d (by assumption) (by assumption) | decide) ?_
    refine qq_aload_n dX5_isPairSound_24 rfl 0 rfl ?_
    refine cx_get hS dX5_isPairSound_25 0 (by decide) rfl kl_X5_9 ?_
    refine qq_iload_n dX5_isPairSound_28 rfl 2 rfl ?_
    refine qq_iald dX5_isPairSound_29 hS.2.2.2.1 (by first | assumption | exact qm_in8 (by assumption) (by assumption) | exact qm_in8d (by assumption) (by assumption) | decide) ?_
    refine qq_callS (bc := 0) (bs := 0) (mc := 0) (ms := 0) (as := [.int (S.1 a.toNatClampNeg), .int (S.1 b.toNatClampNeg)]) (rest := []) dX5_isPairSound_30 (mt_X5_areWithin hp (S.1 a.toNatClampNeg) (S.1 b.toNatClampNeg) hS.1) rfl kl_X5_143 ks_X5_areWithin ki_X5 kc_X5_areWithin kd_X5_areWithin rfl (by decide) (by decide) (Nat.le_of_ble_eq_true rfl) (fun v hp' hv _ _ => ?_) (fun E hp' zx _ _ => zx.elim)
    obtain ⟨rfl, rfl⟩ := hv
    show qq_Go _ hp 0 0 33 [(0, .ref 80), (1, .int a), (2, .int b)] [.int (f_X5_areWithin (S.1 a.toNatClampNeg) (S.1 b.toNatClampNeg))] _ _
    have ze : r_X5_isPairSound a b S = f_X5_areWithin (S.1 a.toNatClampNeg) (S.1 b.toNatClampNeg) := by
      rw [r_X5_isPairSound, if_neg zc1]
    exact qq_iret dX5_isPairSound_33 rfl (qq_nz (bz_X5_areWithin (S.1 a.toNatClampNeg) (S.1 b.toNatClampNeg))) ⟨by rw [ze], rfl⟩
def r_X5_answer (how : Int32) (q : Int32) (k : Int32) (S : sX) : Int32 := r_X5_checkedInt (f_X1_roundedDown (f_X4_digitsAt how q) k)
set_option maxRecDepth 4000 in
theorem mt_X5_answer (hp : qq_H) (S : sX) (hS : cs_X S hp) (how : Int32) (q : Int32) (k : Int32)  : qq_Mt mX5_answer [.ref 80, .int how, .int q, .int k] hp 4 24 (fun v hp' => v = some (.int (r_X5_answer how q k S)) ∧ hp = hp' ∧ (¬ how < 1 ∧ ¬ 3 < how) ∧ (¬ q < (f_X4_firstQ how) ∧ ¬ (f_X4_lastQ how) < q) ∧ (¬ k < -62 ∧ ¬ 90 < k) ∧ (¬ (f_X1_roundedDown (f_X4_digitsAt how q) k) < -2147483648 ∧ ¬ 2147483647 < (f_X1_roundedDown (f_X4_digitsAt how q) k))) (fun E hp' => hp = hp' ∧ ((E = "java/lang/IllegalArgumentException" ∧ (how < 1 ∨ 3 < how)) ∨ (E = "java/lang/IllegalArgumentException" ∧ (¬ how < 1 ∧ ¬ 3 < how) ∧ (q < (f_X4_firstQ how) ∨ (f_X4_lastQ how) < q)) ∨ (E = "java/lang/IllegalArgumentException" ∧ (¬ how < 1 ∧ ¬ 3 < how) ∧ (¬ q < (f_X4_firstQ how) ∧ ¬ (f_X4_lastQ how) < q) ∧ (k < -62 ∨ 90 < k)) ∨ (E = "java/lang/IllegalStateException" ∧ (¬ how < 1 ∧ ¬ 3 < how) ∧ (¬ q < (f_X4_firstQ how) ∧ ¬ (f_X4_lastQ how) < q) ∧ (¬ k < -62 ∧ ¬ 90 < k) ∧ ((f_X1_roundedDown (f_X4_digitsAt how q) k) < -2147483648 ∨ 2147483647 < (f_X1_roundedDown (f_X4_digitsAt how q) k))))) := by
  refine qq_met pn_X5 (Nat.le_of_ble_eq_true rfl) (Nat.le_of_ble_eq_true rfl) kc_X5_answer ?_
  show qq_Go _ hp 4 24 0 [(0, .ref 80), (1, .int how), (2, .int q), (3, .int k)] [] _ _
  refine qq_iload_n dX5_answer_0 rfl 1 rfl ?_
  refine qq_iconst (v := 1) dX5_answer_1 (by decide) ?_
  refine qq_iconst (v := 3) dX5_answer_2 (by decide) ?_
  refine qq_callS (bc := 3) (bs := 18) (mc := 1) (ms := 6) (as := [.int how, .int 1, .int 3]) (rest := []) dX5_answer_3 (mt_X5_checkRange hp how (1 : Int32) (3 : Int32) ) rfl kl_X5_36 ks_X5_checkRange ki_X5 kc_X5_checkRange kd_X5_checkRange rfl (by decide) (by decide) (Nat.le_of_ble_eq_true rfl) (fun v hp' hv _ _ => ?_) (fun E hp' zx _ _ => by obtain ⟨rfl, rfl, zf⟩ := zx; exact qq_thr rfl ⟨rfl, (Or.inl ⟨rfl, zf⟩)⟩)
  obtain ⟨rfl, rfl, zg1⟩ := hv
  have zg11 := zg1.1
  have zg12 := zg1.2
  show qq_Go _ hp 3 18 6 [(0, .ref 80), (1, .int how), (2, .int q), (3, .int k)] [] _ _
  refine qq_iload_n dX5_answer_6 rfl 2 rfl ?_
  refine qq_iload_n dX5_answer_7 rfl 1 rfl ?_
  refine qq_callS (bc := 3) (bs := 18) (mc := 0) (ms := 0) (as := [.int how]) (rest := [.int q]) dX5_answer_8 (mt_X4_firstQ hp how) rfl kl_X5_155 ks_X4_firstQ ki_X4 kc_X4_firstQ kd_X4_firstQ rfl (by decide) (by decide) (Nat.le_of_ble_eq_true rfl) (fun v hp' hv _ _ => ?_) (fun E hp' zx _ _ => zx.elim)
  obtain ⟨rfl, rfl⟩ := hv
  show qq_Go _ hp 3 18 11 [(0, .ref 80), (1, .int how), (2, .int q), (3, .int k)] [.int (f_X4_firstQ how), .int q] _ _
  refine qq_iload_n dX5_answer_11 rfl 1 rfl ?_
  refine qq_callS (bc := 3) (bs := 18) (mc := 0) (ms := 0) (as := [.int how]) (rest := [.int (f_X4_firstQ how), .int q]) dX5_answer_12 (mt_X4_lastQ hp how) rfl kl_X5_158 ks_X4_lastQ ki_X4 kc_X4_lastQ kd_X4_lastQ rfl (by decide) (by decide) (Nat.le_of_ble_eq_true rfl) (fun v hp' hv _ _ => ?_) (fun E hp' zx _ _ => zx.elim)
  obtain ⟨rfl, rfl⟩ := hv
  show qq_Go _ hp 3 18 15 [(0, .ref 80), (1, .int how), (2, .int q), (3, .int k)] [.int (f_X4_lastQ how), .int (f_X4_firstQ how), .int q] _ _
  refine qq_callS (bc := 2) (bs := 12) (mc := 1) (ms := 6) (as := [.int q, .int (f_X4_firstQ how), .int (f_X4_lastQ how)]) (rest := []) dX5_answer_15 (mt_X5_checkRange hp q (f_X4_firstQ how) (f_X4_lastQ how) ) rfl kl_X5_36 ks_X5_checkRange ki_X5 kc_X5_checkRange kd_X5_checkRange rfl (by decide) (by decide) (Nat.le_of_ble_eq_true rfl) (fun v hp' hv _ _ => ?_) (fun E hp' zx _ _ => by obtain ⟨rfl, rfl, zf⟩ := zx; exact qq_thr rfl ⟨rfl, (Or.inr (Or.inl ⟨rfl, zg1, zf⟩))⟩)
  obtain ⟨rfl, rfl, zg2⟩ := hv
  have zg21 := zg2.1
  have zg22 := zg2.2
  show qq_Go _ hp 2 12 18 [(0, .ref 80), (1, .int how), (2, .int q), (3, .int k)] [] _ _
  refine qq_iload_n dX5_answer_18 rfl 3 rfl ?_
  refine qq_bipush (v := (-62)) dX5_answer_19 (by decide) ?_
  refine qq_bipush (v := 90) dX5_answer_21 (by decide) ?_
  refine qq_callS (bc := 1) (bs := 6) (mc := 1) (ms := 6) (as := [.int k, .int (-62), .int 90]) (rest := []) dX5_answer_23 (mt_X5_checkRange hp k (-62 : Int32) (90 : Int32) ) rfl kl_X5_36 ks_X5_checkRange ki_X5 kc_X5_checkRange kd_X5_checkRange rfl (by decide) (by decide) (Nat.le_of_ble_eq_true rfl) (fun v hp' hv _ _ => ?_) (fun E hp' zx _ _ => by obtain ⟨rfl, rfl, zf⟩ := zx; exact qq_thr rfl ⟨rfl, (Or.inr (Or.inr (Or.inl ⟨rfl, zg1, zg2, zf⟩)))⟩)
  obtain ⟨rfl, rfl, zg3⟩ := hv
  have zg31 := zg3.1
  have zg32 := zg3.2
  show qq_Go _ hp 1 6 26 [(0, .ref 80), (1, .int how), (2, .int q), (3, .int k)] [] _ _
  refine qq_iload_n dX5_answer_26 rfl 1 rfl ?_
  refine qq_iload_n dX5_answer_27 rfl 2 rfl ?_
  refine qq_callS (bc := 1) (bs := 6) (mc := 0) (ms := 0) (as := [.int how, .int q]) (rest := []) dX5_answer_28 (mt_X4_digitsAt hp how q hS.1) rfl kl_X5_161 ks_X4_digitsAt ki_X4 kc_X4_digitsAt kd_X4_digitsAt rfl (by decide) (by decide) (Nat.le_of_ble_eq_true rfl) (fun v hp' hv _ _ => ?_) (fun E hp' zx _ _ => zx.elim)
  obtain ⟨rfl, rfl⟩ := hv
  show qq_Go _ hp 1 6 31 [(0, .ref 80), (1, .int how), (2, .int q), (3, .int k)] [.long (f_X4_digitsAt how q)] _ _
  refine qq_iload_n dX5_answer_31 rfl 3 rfl ?_
  refine qq_callS (bc := 1) (bs := 6) (mc := 0) (ms := 0) (as := [.long (f_X4_digitsAt how q), .int k]) (rest := []) dX5_answer_32 (mt_X1_roundedDown hp (f_X4_digitsAt how q) k) rfl kl_X5_109 ks_X1_roundedDown ki_X1 kc_X1_roundedDown kd_X1_roundedDown rfl (by decide) (by decide) (Nat.le_of_ble_eq_true rfl) (fun v hp' hv _ _ => ?_) (fun E hp' zx _ _ => zx.elim)
  obtain ⟨rfl, rfl⟩ := hv
  show qq_Go _ hp 1 6 35 [(0, .ref 80), (1, .int how), (2, .int q), (3, .int k)] [.long (f_X1_roundedDown (f_X4_digitsAt how q) k)] _ _
  refine qq_callS (bc := 0) (bs := 0) (mc := 1) (ms := 6) (as := [.long (f_X1_roundedDown (f_X4_digitsAt how q) k)]) (rest := []) dX5_answer_35 (mt_X5_checkedInt hp (f_X1_roundedDown (f_X4_digitsAt how q) k) ) rfl kl_X5_113 ks_X5_checkedInt ki_X5 kc_X5_checkedInt kd_X5_checkedInt rfl (by decide) (by decide) (Nat.le_of_ble_eq_true rfl) (fun v hp' hv _ _ => ?_) (fun E hp' zx _ _ => by obtain ⟨rfl, rfl, zf⟩ := zx; exact qq_thr rfl ⟨rfl, (Or.inr (Or.inr (Or.inr ⟨rfl, zg1, zg2, zg3, zf⟩)))⟩)
  obtain ⟨rfl, rfl, zg4⟩ := hv
  have zg41 := zg4.1
  have zg42 := zg4.2
  show qq_Go _ hp 0 0 38 [(0, .ref 80), (1, .int how), (2, .int q), (3, .int k)] [.int (r_X5_checkedInt (f_X1_roundedDown (f_X4_digitsAt how q) k))] _ _
  have ze : r_X5_answer how q k S = r_X5_checkedInt (f_X1_roundedDown (f_X4_digitsAt how q) k) := by
    rw [r_X5_answer]
  exact qq_iret dX5_answer_38 rfl rfl ⟨by rw [ze], rfl, zg1, zg2, zg3, zg4⟩