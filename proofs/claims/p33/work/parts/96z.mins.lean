def r_X7_knock   (S : sM) : Int32 × sM := (S.2.2.2.2.2.1 + 1, (S.1, S.2.1, S.2.2.1, S.2.2.2.1, S.2.2.2.2.1, S.2.2.2.2.2.1 + 1, 0))
set_option maxRecDepth 4000 in
theorem mt_X7_knock (hp : qq_H) (A : qA) (S : sM) (hS : ms_M A S hp)       : qq_Mt mX7_knock [.ref 84] hp 0 0 (fun v hp' => v = some (.int ((r_X7_knock S).1)) ∧ ms_M A ((r_X7_knock S).2) hp' ∧ fr A hp hp') (fun _ _ => False) := by
  refine qq_met pn_X7 (Nat.le_of_ble_eq_true rfl) (Nat.le_of_ble_eq_true rfl) kc_X7_knock ?_
  show qq_Go _ hp 0 0 0 [(0, .ref 84)] [] _ _
  refine qq_aload_n dX7_knock_0 rfl 0 rfl ?_
  refine qq_iconst (v := 0) dX7_knock_1 (by decide) ?_
  refine mx_put10 hS dX7_knock_2 kl_X7_50 (fun hp1 hS1 fq1 => ?_)
  have fr1 := fq1 A
  replace hS1 : ms_M A (S.1, S.2.1, S.2.2.1, S.2.2.2.1, S.2.2.2.2.1, S.2.2.2.2.2.1, 0) hp1 := hS1
  refine qq_aload_n dX7_knock_5 rfl 0 rfl ?_
  refine qq_dup dX7_knock_6 rfl ?_
  refine mx_get hS1 dX7_knock_7 9 (by decide) rfl kl_X7_266 ?_
  show qq_Go _ hp1 (0) (0) 10 [(0, .ref 84)] [.int S.2.2.2.2.2.1, .ref 84] _ _
  refine qq_iconst (v := 1) dX7_knock_10 (by decide) ?_
  refine qq_iadd dX7_knock_11 ?_
  refine mx_put9 hS1 dX7_knock_12 kl_X7_266 (fun hp2 hS2 fq2 => ?_)
  have fr2 := fq2 A
  replace hS2 : ms_M A (S.1, S.2.1, S.2.2.1, S.2.2.2.1, S.2.2.2.2.1, S.2.2.2.2.2.1 + 1, 0) hp2 := hS2
  refine qq_aload_n dX7_knock_15 rfl 0 rfl ?_
  refine mx_get hS2 dX7_knock_16 9 (by decide) rfl kl_X7_266 ?_
  show qq_Go _ hp2 (0) (0) 19 [(0, .ref 84)] [.int (S.2.2.2.2.2.1 + 1)] _ _
  have ze : r_X7_knock S = (S.2.2.2.2.2.1 + 1, (S.1, S.2.1, S.2.2.1, S.2.2.2.1, S.2.2.2.2.1, S.2.2.2.2.2.1 + 1, 0)) := by
    rw [r_X7_knock]
  exact qq_iret dX7_knock_19 rfl rfl ⟨by rw [ze], by rw [ze]; first | exact ms_pr hS2 | exact hS2, (fr_t fr1 fr2)⟩
def r_X7_thrown   (S : sM) : Int32 := S.2.2.2.2.2.2
set_option maxRecDepth 4000 in
theorem mt_X7_thrown (hp : qq_H) (A : qA) (S : sM) (hS : ms_M A S hp)       : qq_Mt mX7_thrown [.ref 84] hp 0 0 (fun v hp' => v = some (.int (r_X7_thrown S)) ∧ hp = hp') (fun _ _ => False) := by
  refine qq_met pn_X7 (Nat.le_of_ble_eq_true rfl) (Nat.le_of_ble_eq_true rfl) kc_X7_thrown ?_
  show qq_Go _ hp 0 0 0 [(0, .ref 84)] [] _ _
  refine qq_aload_n dX7_thrown_0 rfl 0 rfl ?_
  refine mx_get hS dX7_thrown_1 10 (by decide) rfl kl_X7_50 ?_
  have ze : r_X7_thrown S = S.2.2.2.2.2.2 := by
    rw [r_X7_thrown]
  exact qq_iret dX7_thrown_4 rfl rfl ⟨by rw [ze], rfl⟩
def r_X7_refused   (S : sM) : Int32 × sM := ((-9), (S.1, S.2.1, S.2.2.1, S.2.2.2.1, S.2.2.2.2.1 + 1, S.2.2.2.2.2.1, S.2.2.2.2.2.2))
set_option maxRecDepth 4000 in
theorem mt_X7_refused (hp : qq_H) (A : qA) (S : sM) (hS : ms_M A S hp)       : qq_Mt mX7_refused [.ref 84] hp 0 0 (fun v hp' => v = some (.int ((r_X7_refused S).1)) ∧ ms_M A ((r_X7_refused S).2) hp' ∧ fr A hp hp') (fun _ _ => False) := by
  refine qq_met pn_X7 (Nat.le_of_ble_eq_true rfl) (Nat.le_of_ble_eq_true rfl) kc_X7_refused ?_
  show qq_Go _ hp 0 0 0 [(0, .ref 84)] [] _ _
  refine qq_aload_n dX7_refused_0 rfl 0 rfl ?_
  refine qq_dup dX7_refused_1 rfl ?_
  refine mx_get hS dX7_refused_2 8 (by decide) rfl kl_X7_120 ?_
  refine qq_iconst (v := 1) dX7_refused_5 (by decide) ?_
  refine qq_iadd dX7_refused_6 ?_
  refine mx_put8 hS dX7_refused_7 kl_X7_120 (fun hp1 hS1 fq1 => ?_)
  have fr1 := fq1 A
  replace hS1 : ms_M A (S.1, S.2.1, S.2.2.1, S.2.2.2.1, S.2.2.2.2.1 + 1, S.2.2.2.2.2.1, S.2.2.2.2.2.2) hp1 := hS1
  refine qq_bipush (v := (-9)) dX7_refused_10 (by decide) ?_
  have ze : r_X7_refused S = ((-9), (S.1, S.2.1, S.2.2.1, S.2.2.2.1, S.2.2.2.2.1 + 1, S.2.2.2.2.2.1, S.2.2.2.2.2.2)) := by
    rw [r_X7_refused]
  exact qq_iret dX7_refused_12 rfl rfl ⟨by rw [ze], by rw [ze]; first | exact ms_pr hS1 | exact hS1, fr1⟩
def r_X7_isArgument (is9 : Int32)  (S : sM) : Int32 × sM := if is9 = 0 then (is9, (S.1, S.2.1, S.2.2.1, S.2.2.2.1, S.2.2.2.2.1, S.2.2.2.2.2.1, 1)) else (is9, (S.1, S.2.1, S.2.2.1, S.2.2.2.1, S.2.2.2.2.1, S.2.2.2.2.2.1, 0))
set_option maxRecDepth 4000 in
theorem mt_X7_isArgument (hp : qq_H) (A : qA) (S : sM) (hS : ms_M A S hp) (is9 : Int32)     (zb : is9 = 0 ∨ is9 = 1) : qq_Mt mX7_isArgument [.ref 84, .int is9] hp 0 0 (fun v hp' => v = some (.int ((r_X7_isArgument is9 S).1)) ∧ ms_M A ((r_X7_isArgument is9 S).2) hp' ∧ fr A hp hp') (fun _ _ => False) := by
  refine qq_met pn_X7 (Nat.le_of_ble_eq_true rfl) (Nat.le_of_ble_eq_true rfl) kc_X7_isArgument ?_
  show qq_Go _ hp 0 0 0 [(0, .ref 84), (1, .int is9)] [] _ _
  refine qq_aload_n dX7_isArgument_0 rfl 0 rfl ?_
  refine qq_iload_n dX7_isArgument_1 rfl 1 rfl ?_
  refine qq_if_eq (tgt := 9) dX7_isArgument_2 (by decide) (fun zc1 => ?_) (fun zc1 => ?_)
  · refine qq_iconst (v := 1) dX7_isArgument_9 (by decide) ?_
    refine mx_put10 hS dX7_isArgument_10 kl_X7_50 (fun hp1 hS1 fq1 => ?_)
    have fr1 := fq1 A
    replace hS1 : ms_M A (S.1, S.2.1, S.2.2.1, S.2.2.2.1, S.2.2.2.2.1, S.2.2.2.2.2.1, 1) hp1 := hS1
    refine qq_iload_n dX7_isArgument_13 rfl 1 rfl ?_
    have ze : r_X7_isArgument is9 S = (is9, (S.1, S.2.1, S.2.2.1, S.2.2.2.1, S.2.2.2.2.1, S.2.2.2.2.2.1, 1)) := by
      rw [r_X7_isArgument, if_pos zc1]
    exact qq_iret dX7_isArgument_14 rfl (qq_nz zb) ⟨by rw [ze], by rw [ze]; first | exact ms_pr hS1 | exact hS1, fr1⟩
  · refine qq_iconst (v := 0) dX7_isArgument_5 (by decide) ?_
    refine qq_goto (tgt := 10) dX7_isArgument_6 (by decide) ?_
    refine mx_put10 hS dX7_isArgument_10 kl_X7_50 (fun hp2 hS2 fq2 => ?_)
    have fr2 := fq2 A
    replace hS2 : ms_M A (S.1, S.2.1, S.2.2.1, S.2.2.2.1, S.2.2.2.2.1, S.2.2.2.2.2.1, 0) hp2 := hS2
    refine qq_iload_n dX7_isArgument_13 rfl 1 rfl ?_
    have ze : r_X7_isArgument is9 S = (is9, (S.1, S.2.1, S.2.2.1, S.2.2.2.1, S.2.2.2.2.1, S.2.2.2.2.2.1, 0)) := by
      rw [r_X7_isArgument, if_neg zc1]
    exact qq_iret dX7_isArgument_14 rfl (qq_nz zb) ⟨by rw [ze], by rw [ze]; first | exact ms_pr hS2 | exact hS2, fr2⟩
def r_X7_isNought (cell : Int32)  (S : sM) : Int32 := if (S.1 cell.toNatClampNeg) = 0 then if (S.2.1 cell.toNatClampNeg) = 0 then 1 else 0 else 0
theorem bz_X7_isNought (cell : Int32)  (S : sM) : r_X7_isNought cell S = 0 ∨ r_X7_isNought cell S = 1 := by
  unfold r_X7_isNought
  exact (qq_i01 (qq_i01 (Or.inr rfl) (Or.inl rfl)) (Or.inl rfl))
set_option maxRecDepth 4000 in
theorem mt_X7_isNought (hp : qq_H) (A : qA) (S : sM) (hS : ms_M A S hp) (cell : Int32)     (zcell : vp_in cell 8) : qq_Mt mX7_isNought [.ref 84, .int cell] hp 0 0 (fun v hp' => v = some (.int (r_X7_isNought cell S)) ∧ hp = hp') (fun _ _ => False) := by
  refine qq_met pn_X7 (Nat.le_of_ble_eq_true rfl) (Nat.le_of_ble_eq_true rfl) kc_X7_isNought ?_
  show qq_Go _ hp 0 0 0 [(0, .ref 84), (1, .int cell)] [] _ _
  refine qq_aload_n dX7_isNought_0 rfl 0 rfl ?_
  refine mx_get hS dX7_isNought_1 4 (by decide) rfl kl_X7_28 ?_
  refine qq_iload_n dX7_isNought_4 rfl 1 rfl ?_
  refine qq_iald dX7_isNought_5 hS.2.2.2.1 zcell ?_
  refine qq_if_ne (tgt := 22) dX7_isNought_6 (by decide) (fun zc1 => ?_) (fun zc1 => ?_)
  · refine qq_iconst (v := 0) dX7_isNought_22 (by decide) ?_
    have ze : r_X7_isNought cell S = 0 := by
      rw [r_X7_isNought, if_neg zc1]
    exact qq_iret dX7_isNought_23 rfl rfl ⟨by rw [ze], rfl⟩
  · refine qq_aload_n dX7_isNought_9 rfl 0 rfl ?_
    refine mx_get hS dX7_isNought_10 5 (by decide) rfl kl_X7_31 ?_
    refine qq_iload_n dX7_isNought_13 rfl 1 rfl ?_
    refine qq_iald dX7_isNought_14 hS.2.2.2.2.1 zcell ?_
    refine qq_if_ne (tgt := 22) dX7_isNought_15 (by decide) (fun zc2 => ?_) (fun zc2 => ?_)
    · refine qq_iconst (v := 0) dX7_isNought_22 (by decide) ?_
      have ze : r_X7_isNought cell S = 0 := by
        rw [r_X7_isNought, if_pos zc1, if_neg zc2]
      exact qq_iret dX7_isNought_23 rfl rfl ⟨by rw [ze], rfl⟩
    · refine qq_iconst (v := 1) dX7_isNought_18 (by decide) ?_
      refine qq_goto (tgt := 23) dX7_isNought_19 (by decide) ?_
      have ze : r_X7_isNought cell S = 1 := by
        rw [r_X7_isNought, if_pos zc1, if_pos zc2]
      exact qq_iret dX7_isNought_23 rfl rfl ⟨by rw [ze], rfl⟩
def r_X7_isRefused (ix9 : Int32) (ar9 : Int32)  (S : sM) : Int32 × sM := if ix9 = 0 then if ar9 = 0 then (0, (S.1, S.2.1, S.2.2.1, S.2.2.2.1, S.2.2.2.2.1, S.2.2.2.2.2.1, 0)) else (1, (S.1, S.2.1, S.2.2.1, S.2.2.2.1, S.2.2.2.2.1, S.2.2.2.2.2.1, 2)) else (1, (S.1, S.2.1, S.2.2.1, S.2.2.2.1, S.2.2.2.2.1, S.2.2.2.2.2.1, 1))
set_option maxRecDepth 4000 in
theorem mt_X7_isRefused (hp : qq_H) (A : qA) (S : sM) (hS : ms_M A S hp) (ix9 : Int32) (ar9 : Int32)      : qq_Mt mX7_isRefused [.ref 84, .int ix9, .int ar9] hp 0 0 (fun v hp' => v = some (.int ((r_X7_isRefused ix9 ar9 S).1)) ∧ ms_M A ((r_X7_isRefused ix9 ar9 S).2) hp' ∧ fr A hp hp') (fun _ _ => False) := by
  refine qq_met pn_X7 (Nat.le_of_ble_eq_true rfl) (Nat.le_of_ble_eq_true rfl) kc_X7_isRefused ?_
  show qq_Go _ hp 0 0 0 [(0, .ref 84), (1, .int ix9), (2, .int ar9)] [] _ _
  refine qq_aload_n dX7_isRefused_0 rfl 0 rfl ?_
  refine qq_iload_n dX7_isRefused_1 rfl 1 rfl ?_
  refine qq_if_eq (tgt := 9) dX7_isRefused_2 (by decide) (fun zc1 => ?_) (fun zc1 => ?_)
  · refine qq_iload_n dX7_isRefused_9 rfl 2 rfl ?_
    refine qq_if_eq (tgt := 17) dX7_isRefused_10 (by decide) (fun zc2 => ?_) (fun zc2 => ?_)
    · refine qq_iconst (v := 0) dX7_isRefused_17 (by decide) ?_
      refine mx_put10 hS dX7_isRefused_18 kl_X7_50 (fun hp1 hS1 fq1 => ?_)
      have fr1 := fq1 A
      replace hS1 : ms_M A (S.1, S.2.1, S.2.2.1, S.2.2.2.1, S.2.2.2.2.1, S.2.2.2.2.2.1, 0) hp1 := hS1
      refine qq_aload_n dX7_isRefused_21 rfl 0 rfl ?_
      refine mx_get hS1 dX7_isRefused_22 10 (by decide) rfl kl_X7_50 ?_
      show qq_Go _ hp1 (0) (0) 25 [(0, .ref 84), (1, .int ix9), (2, .int ar9)] [.int 0] _ _
      refine qq_if_eq (tgt := 32) dX7_isRefused_25 (by decide) (fun _ => ?_) (fun z => absurd (by decide) z)
      refine qq_iconst (v := 0) dX7_isRefused_32 (by decide) ?_
      have ze : r_X7_isRefused ix9 ar9 S = (0, (S.1, S.2.1, S.2.2.1, S.2.2.2.1, S.2.2.2.2.1, S.2.2.2.2.2.1, 0)) := by
        rw [r_X7_isRefused, if_pos zc1, if_pos zc2]
      exact qq_iret dX7_isRefused_33 rfl rfl ⟨by rw [ze], by rw [ze]; first | exact ms_pr hS1 | exact hS1, fr1⟩
    · refine qq_iconst (v := 2) dX7_isRefused_13 (by decide) ?_
      refine qq_goto (tgt := 18) dX7_isRefused_14 (by decide) ?_
      refine mx_put10 hS dX7_isRefused_18 kl_X7_50 (fun hp2 hS2 fq2 => ?_)
      have fr2 := fq2 A
      replace hS2 : ms_M A (S.1, S.2.1, S.2.2.1, S.2.2.2.1, S.2.2.2.2.1, S.2.2.2.2.2.1, 2) hp2 := hS2
      refine qq_aload_n dX7_isRefused_21 rfl 0 rfl ?_
      refine mx_get hS2 dX7_isRefused_22 10 (by decide) rfl kl_X7_50 ?_
      show qq_Go _ hp2 (0) (0) 25 [(0, .ref 84), (1, .int ix9), (2, .int ar9)] [.int 2] _ _
      refine qq_if_eq (tgt := 32) dX7_isRefused_25 (by decide) (fun z => absurd z (by decide)) (fun _ => ?_)
      refine qq_iconst (v := 1) dX7_isRefused_28 (by decide) ?_
      refine qq_goto (tgt := 33) dX7_isRefused_29 (by decide) ?_
      have ze : r_X7_isRefused ix9 ar9 S = (1, (S.1, S.2.1, S.2.2.1, S.2.2.2.1, S.2.2.2.2.1, S.2.2.2.2.2.1, 2)) := by
        rw [r_X7_isRefused, if_pos zc1, if_neg zc2]
      exact qq_iret dX7_isRefused_33 rfl rfl ⟨by rw [ze], by rw [ze]; first | exact ms_pr hS2 | exact hS2, fr2⟩
  · refine qq_iconst (v := 1) dX7_isRefused_5 (by decide) ?_
    refine qq_goto (tgt := 18) dX7_isRefused_6 (by decide) ?_
    refine mx_put10 hS dX7_isRefused_18 kl_X7_50 (fun hp3 hS3 fq3 => ?_)
    have fr3 := fq3 A
    replace hS3 : ms_M A (S.1, S.2.1, S.2.2.1, S.2.2.2.1, S.2.2.2.2.1, S.2.2.2.2.2.1, 1) hp3 := hS3
    refine qq_aload_n dX7_isRefused_21 rfl 0 rfl ?_
    refine mx_get hS3 dX7_isRefused_22 10 (by decide) rfl kl_X7_50 ?_
    show qq_Go _ hp3 (0) (0) 25 [(0, .ref 84), (1, .int ix9), (2, .int ar9)] [.int 1] _ _
    refine qq_if_eq (tgt := 32) dX7_isRefused_25 (by decide) (fun z => absurd z (by decide)) (fun _ => ?_)
    refine qq_iconst (v := 1) dX7_isRefused_28 (by decide) ?_
    refine qq_goto (tgt := 33) dX7_isRefused_29 (by decide) ?_
    have ze : r_X7_isRefused ix9 ar9 S = (1, (S.1, S.2.1, S.2.2.1, S.2.2.2.1, S.2.2.2.2.1, S.2.2.2.2.2.1, 1)) := by
      rw [r_X7_isRefused, if_neg zc1]
    exact qq_iret dX7_isRefused_33 rfl rfl ⟨by rw [ze], by rw [ze]; first | exact ms_pr hS3 | exact hS3, fr3⟩
def r_X7_isUntold (cell : Int32)  (S : sM) : Int32 := if (S.1 cell.toNatClampNeg) = 1 then 1 else if (S.1 cell.toNatClampNeg) ≤ 4 then 0 else 1
theorem bz_X7_isUntold (cell : Int32)  (S : sM) : r_X7_isUntold cell S = 0 ∨ r_X7_isUntold cell S = 1 := by
  unfold r_X7_isUntold
  exact (qq_i01 (Or.inr rfl) (qq_i01 (Or.inl rfl) (Or.inr rfl)))
set_option maxRecDepth 4000 in
theorem mt_X7_isUntold (hp : qq_H) (A : qA) (S : sM) (hS : ms_M A S hp) (cell : Int32)     (zcell : vp_in cell 8) : qq_Mt mX7_isUntold [.ref 84, .int cell] hp 0 0 (fun v hp' => v = some (.int (r_X7_isUntold cell S)) ∧ hp = hp') (fun _ _ => False) := by
  refine qq_met pn_X7 (Nat.le_of_ble_eq_true rfl) (Nat.le_of_ble_eq_true rfl) kc_X7_isUntold ?_
  show qq_Go _ hp 0 0 0 [(0, .ref 84), (1, .int cell)] [] _ _
  refine qq_aload_n dX7_isUntold_0 rfl 0 rfl ?_
  refine mx_get hS dX7_isUntold_1 4 (by decide) rfl kl_X7_28 ?_
  refine qq_iload_n dX7_isUntold_4 rfl 1 rfl ?_
  refine qq_iald dX7_isUntold_5 hS.2.2.2.1 zcell ?_
  refine qq_iconst (v := 1) dX7_isUntold_6 (by decide) ?_
  refine qq_icmp_eq (tgt := 20) dX7_isUntold_7 (by decide) (fun zc1 => ?_) (fun zc1 => ?_)
  · refine qq_iconst (v := 1) dX7_isUntold_20 (by decide) ?_
    refine qq_goto (tgt := 25) dX7_isUntold_21 (by decide) ?_
    have ze : r_X7_isUntold cell S = 1 := by
      rw [r_X7_isUntold, if_pos zc1]
    exact qq_iret dX7_isUntold_25 rfl rfl ⟨by rw [ze], rfl⟩
  · refine qq_aload_n dX7_isUntold_10 rfl 0 rfl ?_
    refine mx_get hS dX7_isUntold_11 4 (by decide) rfl kl_X7_28 ?_
    refine qq_iload_n dX7_isUntold_14 rfl 1 rfl ?_
    refine qq_iald dX7_isUntold_15 hS.2.2.2.1 zcell ?_
    refine qq_iconst (v := 4) dX7_isUntold_16 (by decide) ?_
    refine qq_icmp_le (tgt := 24) dX7_isUntold_17 (by decide) (fun zc2 => ?_) (fun zc2 => ?_)
    · refine qq_iconst (v := 0) dX7_isUntold_24 (by decide) ?_
      have ze : r_X7_isUntold cell S = 0 := by
        rw [r_X7_isUntold, if_neg zc1, if_pos zc2]
      exact qq_iret dX7_isUntold_25 rfl rfl ⟨by rw [ze], rfl⟩
    · refine qq_iconst (v := 1) dX7_isUntold_20 (by decide) ?_
      refine qq_goto (tgt := 25) dX7_isUntold_21 (by decide) ?_
      have ze : r_X7_isUntold cell S = 1 := by
        rw [r_X7_isUntold, if_neg zc1, if_neg zc2]
      exact qq_iret dX7_isUntold_25 rfl rfl ⟨by rw [ze], rfl⟩
def r_X7_areAlike (a : Int32) (b : Int32)  (S : sM) : Int32 := if (S.1 a.toNatClampNeg) = (S.1 b.toNatClampNeg) then if (S.2.1 a.toNatClampNeg) = (S.2.1 b.toNatClampNeg) then if (S.2.2.1 a.toNatClampNeg) = (S.2.2.1 b.toNatClampNeg) then 1 else 0 else 0 else 0
theorem bz_X7_areAlike (a : Int32) (b : Int32)  (S : sM) : r_X7_areAlike a b S = 0 ∨ r_X7_areAlike a b S = 1 := by
  unfold r_X7_areAlike
  exact (qq_i01 (qq_i01 (qq_i01 (Or.inr rfl) (Or.inl rfl)) (Or.inl rfl)) (Or.inl rfl))
set_option maxRecDepth 4000 in
theorem mt_X7_areAlike (hp : qq_H) (A : qA) (S : sM) (hS : ms_M A S hp) (a : Int32) (b : Int32)     (za : vp_in a 8) (zb : vp_in b 8) : qq_Mt mX7_areAlike [.ref 84, .int a, .int b] hp 0 0 (fun v hp' => v = some (.int (r_X7_areAlike a b S)) ∧ hp = hp') (fun _ _ => False) := by
  refine qq_met pn_X7 (Nat.le_of_ble_eq_true rfl) (Nat.le_of_ble_eq_true rfl) kc_X7_areAlike ?_
  show qq_Go _ hp 0 0 0 [(0, .ref 84), (1, .int a), (2, .int b)] [] _ _
  refine qq_aload_n dX7_areAlike_0 rfl 0 rfl ?_
  refine mx_get hS dX7_areAlike_1 4 (by decide) rfl kl_X7_28 ?_
  refine qq_iload_n dX7_areAlike_4 rfl 1 rfl ?_
  refine qq_iald dX7_areAlike_5 hS.2.2.2.1 za ?_
  refine qq_aload_n dX7_areAlike_6 rfl 0 rfl ?_
  refine mx_get hS dX7_areAlike_7 4 (by decide) rfl kl_X7_28 ?_
  refine qq_iload_n dX7_areAlike_10 rfl 2 rfl ?_
  refine qq_iald dX7_areAlike_11 hS.2.2.2.1 zb ?_
  refine qq_icmp_ne (tgt := 49) dX7_areAlike_12 (by decide) (fun zc1 => ?_) (fun zc1 => ?_)
  · refine qq_iconst (v := 0) dX7_areAlike_49 (by decide) ?_
    have ze : r_X7_areAlike a b S = 0 := by
      rw [r_X7_areAlike, if_neg zc1]
    exact qq_iret dX7_areAlike_50 rfl rfl ⟨by rw [ze], rfl⟩
  · refine qq_aload_n dX7_areAlike_15 rfl 0 rfl ?_
    refine mx_get hS dX7_areAlike_16 5 (by decide) rfl kl_X7_31 ?_
    refine qq_iload_n dX7_areAlike_19 rfl 1 rfl ?_
    refine qq_iald dX7_areAlike_20 hS.2.2.2.2.1 za ?_
    refine qq_aload_n dX7_areAlike_21 rfl 0 rfl ?_
    refine mx_get hS dX7_areAlike_22 5 (by decide) rfl kl_X7_31 ?_
    refine qq_iload_n dX7_areAlike_25 rfl 2 rfl ?_
    refine qq_iald dX7_areAlike_26 hS.2.2.2.2.1 zb ?_
    refine qq_icmp_ne (tgt := 49) dX7_areAlike_27 (by decide) (fun zc2 => ?_) (fun zc2 => ?_)
    · refine qq_iconst (v := 0) dX7_areAlike_49 (by decide) ?_
      have ze : r_X7_areAlike a b S = 0 := by
        rw [r_X7_areAlike, if_pos zc1, if_neg zc2]
      exact qq_iret dX7_areAlike_50 rfl rfl ⟨by rw [ze], rfl⟩
    · refine qq_aload_n dX7_areAlike_30 rfl 0 rfl ?_
      refine mx_get hS dX7_areAlike_31 6 (by decide) rfl kl_X7_34 ?_
      refine qq_iload_n dX7_areAlike_34 rfl 1 rfl ?_
      refine qq_zald dX7_areAlike_35 hS.2.2.2.2.2.1 za ?_
      refine qq_aload_n dX7_areAlike_36 rfl 0 rfl ?_
      refine mx_get hS dX7_areAlike_37 6 (by decide) rfl kl_X7_34 ?_
      refine qq_iload_n dX7_areAlike_40 rfl 2 rfl ?_
      refine qq_zald dX7_areAlike_41 hS.2.2.2.2.2.1 zb ?_
      refine qq_icmp_ne (tgt := 49) dX7_areAlike_42 (by decide) (fun zc3 => ?_) (fun zc3 => ?_)
      · refine qq_iconst (v := 0) dX7_areAlike_49 (by decide) ?_
        have ze : r_X7_areAlike a b S = 0 := by
          rw [r_X7_areAlike, if_pos zc1, if_pos zc2, if_neg zc3]
        exact qq_iret dX7_areAlike_50 rfl rfl ⟨by rw [ze], rfl⟩
      · refine qq_iconst (v := 1) dX7_areAlike_45 (by decide) ?_
        refine qq_goto (tgt := 50) dX7_areAlike_46 (by decide) ?_
        have ze : r_X7_areAlike a b S = 1 := by
          rw [r_X7_areAlike, if_pos zc1, if_pos zc2, if_pos zc3]
        exact qq_iret dX7_areAlike_50 rfl rfl ⟨by rw [ze], rfl⟩
def r_X7_areNear (a : Int32) (b : Int32)  (S : sM) : Int32 := if (S.1 a.toNatClampNeg) = 0 then if (S.1 b.toNatClampNeg) ≤ 4 then if (S.1 b.toNatClampNeg) = 0 then if (S.1 a.toNatClampNeg) ≤ 4 then 0 else if (S.2.1 a.toNatClampNeg) = (S.2.1 b.toNatClampNeg) then 1 else 0 else 0 else if (S.1 b.toNatClampNeg) = 0 then if (S.1 a.toNatClampNeg) ≤ 4 then if (S.2.1 a.toNatClampNeg) = (S.2.1 b.toNatClampNeg) then 1 else 0 else if (S.2.1 a.toNatClampNeg) = (S.2.1 b.toNatClampNeg) then 1 else 0 else if (S.2.1 a.toNatClampNeg) = (S.2.1 b.toNatClampNeg) then 1 else 0 else if (S.1 b.toNatClampNeg) = 0 then if (S.1 a.toNatClampNeg) ≤ 4 then 0 else if (S.2.1 a.toNatClampNeg) = (S.2.1 b.toNatClampNeg) then 1 else 0 else 0
theorem bz_X7_areNear (a : Int32) (b : Int32)  (S : sM) : r_X7_areNear a b S = 0 ∨ r_X7_areNear a b S = 1 := by
  unfold r_X7_areNear
  exact (qq_i01 (qq_i01 (qq_i01 (qq_i01 (Or.inl rfl) (qq_i01 (Or.inr rfl) (Or.inl rfl))) (Or.inl rfl)) (qq_i01 (qq_i01 (qq_i01 (Or.inr rfl) (Or.inl rfl)) (qq_i01 (Or.inr rfl) (Or.inl rfl))) (qq_i01 (Or.inr rfl) (Or.inl rfl)))) (qq_i01 (qq_i01 (Or.inl rfl) (qq_i01 (Or.inr rfl) (Or.inl rfl))) (Or.inl rfl)))
set_option maxRecDepth 4000 in
theorem mt_X7_areNear (hp : qq_H) (A : qA) (S : sM) (hS : ms_M A S hp) (a : Int32) (b : Int32)     (za : vp_in a 8) (zb : vp_in b 8) : qq_Mt mX7_areNear [.ref 84, .int a, .int b] hp 0 0 (fun v hp' => v = some (.int (r_X7_areNear a b S)) ∧ hp = hp') (fun _ _ => False) := by
  refine qq_met pn_X7 (Nat.le_of_ble_eq_true rfl) (Nat.le_of_ble_eq_true rfl) kc_X7_areNear ?_
  show qq_Go _ hp 0 0 0 [(0, .ref 84), (1, .int a), (2, .int b)] [] _ _
  refine qq_aload_n dX7_areNear_0 rfl 0 rfl ?_
  refine mx_get hS dX7_areNear_1 4 (by decide) rfl kl_X7_28 ?_
  refine qq_iload_n dX7_areNear_4 rfl 1 rfl ?_
  refine qq_iald dX7_areNear_5 hS.2.2.2.1 za ?_
  refine qq_if_ne (tgt := 23) dX7_areNear_6 (by decide) (fun zc1 => ?_) (fun zc1 => ?_)
  · refine qq_iconst (v := 0) dX7_areNear_23 (by decide) ?_
    refine qq_istore_n (loc' := [(0, .ref 84), (1, .int a), (2, .int b), (3, .int 0)]) dX7_areNear_24 rfl [1, 2, 3, 0] (Nat.le_of_ble_eq_true rfl) rfl ?_
    refine qq_aload_n dX7_areNear_25 rfl 0 rfl ?_
    refine mx_get hS dX7_areNear_26 4 (by decide) rfl kl_X7_28 ?_
    refine qq_iload_n dX7_areNear_29 rfl 2 rfl ?_
    refine qq_iald dX7_areNear_30 hS.2.2.2.1 zb ?_
    refine qq_if_ne (tgt := 48) dX7_areNear_31 (by decide) (fun zc2 => ?_) (fun zc2 => ?_)
    · refine qq_iconst (v := 0) dX7_areNear_48 (by decide) ?_
      refine qq_istore (loc' := [(0, .ref 84), (1, .int a), (2, .int b), (3, .int 0), (4, .int 0)]) dX7_areNear_49 [1, 2, 3, 4, 0] (Nat.le_of_ble_eq_true rfl) rfl ?_
      refine qq_iload_n dX7_areNear_51 rfl 3 rfl ?_
      refine qq_if_ne (tgt := 60) dX7_areNear_52 (by decide) (fun z => absurd z (by decide)) (fun _ => ?_)
      refine qq_iload dX7_areNear_55 4 rfl ?_
      refine qq_if_eq (tgt := 79) dX7_areNear_57 (by decide) (fun _ => ?_) (fun z => absurd (by decide) z)
      refine qq_iconst (v := 0) dX7_areNear_79 (by decide) ?_
      have ze : r_X7_areNear a b S = 0 := by
        rw [r_X7_areNear, if_neg zc1, if_neg zc2]
      exact qq_iret dX7_areNear_80 rfl rfl ⟨by rw [ze], rfl⟩
    · refine qq_aload_n dX7_areNear_34 rfl 0 rfl ?_
      refine mx_get hS dX7_areNear_35 4 (by decide) rfl kl_X7_28 ?_
      refine qq_iload_n dX7_areNear_38 rfl 1 rfl ?_
      refine qq_iald dX7_areNear_39 hS.2.2.2.1 za ?_
      refine qq_iconst (v := 4) dX7_areNear_40 (by decide) ?_
      refine qq_icmp_le (tgt := 48) dX7_areNear_41 (by decide) (fun zc3 => ?_) (fun zc3 => ?_)
      · refine qq_iconst (v := 0) dX7_areNear_48 (by decide) ?_
        refine qq_istore (loc' := [(0, .ref 84), (1, .int a), (2, .int b), (3, .int 0), (4, .int 0)]) dX7_areNear_49 [1, 2, 3, 4, 0] (Nat.le_of_ble_eq_true rfl) rfl ?_
        refine qq_iload_n dX7_areNear_51 rfl 3 rfl ?_
        refine qq_if_ne (tgt := 60) dX7_areNear_52 (by decide) (fun z => absurd z (by decide)) (fun _ => ?_)
        refine qq_iload dX7_areNear_55 4 rfl ?_
        refine qq_if_eq (tgt := 79) dX7_areNear_57 (by decide) (fun _ => ?_) (fun z => absurd (by decide) z)
        refine qq_iconst (v := 0) dX7_areNear_79 (by decide) ?_
        have ze : r_X7_areNear a b S = 0 := by
          rw [r_X7_areNear, if_neg zc1, if_pos zc2, if_pos zc3]
        exact qq_iret dX7_areNear_80 rfl rfl ⟨by rw [ze], rfl⟩
      · refine qq_iconst (v := 1) dX7_areNear_44 (by decide) ?_
        refine qq_goto (tgt := 49) dX7_areNear_45 (by decide) ?_
        refine qq_istore (loc' := [(0, .ref 84), (1, .int a), (2, .int b), (3, .int 0), (4, .int 1)]) dX7_areNear_49 [1, 2, 3, 4, 0] (Nat.le_of_ble_eq_true rfl) rfl ?_
        refine qq_iload_n dX7_areNear_51 rfl 3 rfl ?_
        refine qq_if_ne (tgt := 60) dX7_areNear_52 (by decide) (fun z => absurd z (by decide)) (fun _ => ?_)
        refine qq_iload dX7_areNear_55 4 rfl ?_
        refine qq_if_eq (tgt := 79) dX7_areNear_57 (by decide) (fun z => absurd z (by decide)) (fun _ => ?_)
        refine qq_aload_n dX7_areNear_60 rfl 0 rfl ?_
        refine mx_get hS dX7_areNear_61 5 (by decide) rfl kl_X7_31 ?_
        refine qq_iload_n dX7_areNear_64 rfl 1 rfl ?_
        refine qq_iald dX7_areNear_65 hS.2.2.2.2.1 za ?_
        refine qq_aload_n dX7_areNear_66 rfl 0 rfl ?_
        refine mx_get hS dX7_areNear_67 5 (by decide) rfl kl_X7_31 ?_
        refine qq_iload_n dX7_areNear_70 rfl 2 rfl ?_
        refine qq_iald dX7_areNear_71 hS.2.2.2.2.1 zb ?_
        refine qq_icmp_ne (tgt := 79) dX7_areNear_72 (by decide) (fun zc4 => ?_) (fun zc4 => ?_)
        · refine qq_iconst (v := 0) dX7_areNear_79 (by decide) ?_
          have ze : r_X7_areNear a b S = 0 := by
            rw [r_X7_areNear, if_neg zc1, if_pos zc2, if_neg zc3, if_neg zc4]
          exact qq_iret dX7_areNear_80 rfl rfl ⟨by rw [ze], rfl⟩
        · refine qq_iconst (v := 1) dX7_areNear_75 (by decide) ?_
          refine qq_goto (tgt := 80) dX7_areNear_76 (by decide) ?_
          have ze : r_X7_areNear a b S = 1 := by
            rw [r_X7_areNear, if_neg zc1, if_pos zc2, if_neg zc3, if_pos zc4]
          exact qq_iret dX7_areNear_80 rfl rfl ⟨by rw [ze], rfl⟩
  · refine qq_aload_n dX7_areNear_9 rfl 0 rfl ?_
    refine mx_get hS dX7_areNear_10 4 (by decide) rfl kl_X7_28 ?_
    refine qq_iload_n dX7_areNear_13 rfl 2 rfl ?_
    refine qq_iald dX7_areNear_14 hS.2.2.2.1 zb ?_
    refine qq_iconst (v := 4) dX7_areNear_15 (by decide) ?_
    refine qq_icmp_le (tgt := 23) dX7_areNear_16 (by decide) (fun zc5 => ?_) (fun zc5 => ?_)
    · refine qq_iconst (v := 0) dX7_areNear_23 (by decide) ?_
      refine qq_istore_n (loc' := [(0, .ref 84), (1, .int a), (2, .int b), (3, .int 0)]) dX7_areNear_24 rfl [1, 2, 3, 0] (Nat.le_of_ble_eq_true rfl) rfl ?_
      refine qq_aload_n dX7_areNear_25 rfl 0 rfl ?_
      refine mx_get hS dX7_areNear_26 4 (by decide) rfl kl_X7_28 ?_
      refine qq_iload_n dX7_areNear_29 rfl 2 rfl ?_
      refine qq_iald dX7_areNear_30 hS.2.2.2.1 zb ?_
      refine qq_if_ne (tgt := 48) dX7_areNear_31 (by decide) (fun zc6 => ?_) (fun zc6 => ?_)
      · refine qq_iconst (v := 0) dX7_areNear_48 (by decide) ?_
        refine qq_istore (loc' := [(0, .ref 84), (1, .int a), (2, .int b), (3, .int 0), (4, .int 0)]) dX7_areNear_49 [1, 2, 3, 4, 0] (Nat.le_of_ble_eq_true rfl) rfl ?_
        refine qq_iload_n dX7_areNear_51 rfl 3 rfl ?_
        refine qq_if_ne (tgt := 60) dX7_areNear_52 (by decide) (fun z => absurd z (by decide)) (fun _ => ?_)
        refine qq_iload dX7_areNear_55 4 rfl ?_
        refine qq_if_eq (tgt := 79) dX7_areNear_57 (by decide) (fun _ => ?_) (fun z => absurd (by decide) z)
        refine qq_iconst (v := 0) dX7_areNear_79 (by decide) ?_
        have ze : r_X7_areNear a b S = 0 := by
          rw [r_X7_areNear, if_pos zc1, if_pos zc5, if_neg zc6]
        exact qq_iret dX7_areNear_80 rfl rfl ⟨by rw [ze], rfl⟩
      · refine qq_aload_n dX7_areNear_34 rfl 0 rfl ?_
        refine mx_get hS dX7_areNear_35 4 (by decide) rfl kl_X7_28 ?_
        refine qq_iload_n dX7_areNear_38 rfl 1 rfl ?_
        refine qq_iald dX7_areNear_39 hS.2.2.2.1 za ?_
        refine qq_iconst (v := 4) dX7_areNear_40 (by decide) ?_
        refine qq_icmp_le (tgt := 48) dX7_areNear_41 (by decide) (fun zc7 => ?_) (fun zc7 => ?_)
        · refine qq_iconst (v := 0) dX7_areNear_48 (by decide) ?_
          refine qq_istore (loc' := [(0, .ref 84), (1, .int a), (2, .int b), (3, .int 0), (4, .int 0)]) dX7_areNear_49 [1, 2, 3, 4, 0] (Nat.le_of_ble_eq_true rfl) rfl ?_
          refine qq_iload_n dX7_areNear_51 rfl 3 rfl ?_
          refine qq_if_ne (tgt := 60) dX7_areNear_52 (by decide) (fun z => absurd z (by decide)) (fun _ => ?_)
          refine qq_iload dX7_areNear_55 4 rfl ?_
          refine qq_if_eq (tgt := 79) dX7_areNear_57 (by decide) (fun _ => ?_) (fun z => absurd (by decide) z)
          refine qq_iconst (v := 0) dX7_areNear_79 (by decide) ?_
          have ze : r_X7_areNear a b S = 0 := by
            rw [r_X7_areNear, if_pos zc1, if_pos zc5, if_pos zc6, if_pos zc7]
          exact qq_iret dX7_areNear_80 rfl rfl ⟨by rw [ze], rfl⟩
        · refine qq_iconst (v := 1) dX7_areNear_44 (by decide) ?_
          refine qq_goto (tgt := 49) dX7_areNear_45 (by decide) ?_
          refine qq_istore (loc' := [(0, .ref 84), (1, .int a), (2, .int b), (3, .int 0), (4, .int 1)]) dX7_areNear_49 [1, 2, 3, 4, 0] (Nat.le_of_ble_eq_true rfl) rfl ?_
          refine qq_iload_n dX7_areNear_51 rfl 3 rfl ?_
          refine qq_if_ne (tgt := 60) dX7_areNear_52 (by decide) (fun z => absurd z (by decide)) (fun _ => ?_)
          refine qq_iload dX7_areNear_55 4 rfl ?_
          refine qq_if_eq (tgt := 79) dX7_areNear_57 (by decide) (fun z => absurd z (by decide)) (fun _ => ?_)
          refine qq_aload_n dX7_areNear_60 rfl 0 rfl ?_
          refine mx_get hS dX7_areNear_61 5 (by decide) rfl kl_X7_31 ?_
          refine qq_iload_n dX7_areNear_64 rfl 1 rfl ?_
          refine qq_iald dX7_areNear_65 hS.2.2.2.2.1 za ?_
          refine qq_aload_n dX7_areNear_66 rfl 0 rfl ?_
          refine mx_get hS dX7_areNear_67 5 (by decide) rfl kl_X7_31 ?_
          refine qq_iload_n dX7_areNear_70 rfl 2 rfl ?_
          refine qq_iald dX7_areNear_71 hS.2.2.2.2.1 zb ?_
          refine qq_icmp_ne (tgt := 79) dX7_areNear_72 (by decide) (fun zc8 => ?_) (fun zc8 => ?_)
          · refine qq_iconst (v := 0) dX7_areNear_79 (by decide) ?_
            have ze : r_X7_areNear a b S = 0 := by
              rw [r_X7_areNear, if_pos zc1, if_pos zc5, if_pos zc6, if_neg zc7, if_neg zc8]
            exact qq_iret dX7_areNear_80 rfl rfl ⟨by rw [ze], rfl⟩
          · refine qq_iconst (v := 1) dX7_areNear_75 (by decide) ?_
            refine qq_goto (tgt := 80) dX7_areNear_76 (by decide) ?_
            have ze : r_X7_areNear a b S = 1 := by
              rw [r_X7_areNear, if_pos zc1, if_pos zc5, if_pos zc6, if_neg zc7, if_pos zc8]
            exact qq_iret dX7_areNear_80 rfl rfl ⟨by rw [ze], rfl⟩
    · refine qq_iconst (v := 1) dX7_areNear_19 (by decide) ?_
      refine qq_goto (tgt := 24) dX7_areNear_20 (by decide) ?_
      refine qq_istore_n (loc' := [(0, .ref 84), (1, .int a), (2, .int b), (3, .int 1)]) dX7_areNear_24 rfl [1, 2, 3, 0] (Nat.le_of_ble_eq_true rfl) rfl ?_
      refine qq_aload_n dX7_areNear_25 rfl 0 rfl ?_
      refine mx_get hS dX7_areNear_26 4 (by decide) rfl kl_X7_28 ?_
      refine qq_iload_n dX7_areNear_29 rfl 2 rfl ?_
      refine qq_iald dX7_areNear_30 hS.2.2.2.1 zb ?_
      refine qq_if_ne (tgt := 48) dX7_areNear_31 (by decide) (fun zc9 => ?_) (fun zc9 => ?_)
      · refine qq_iconst (v := 0) dX7_areNear_48 (by decide) ?_
        refine qq_istore (loc' := [(0, .ref 84), (1, .int a), (2, .int b), (3, .int 1), (4, .int 0)]) dX7_areNear_49 [1, 2, 3, 4, 0] (Nat.le_of_ble_eq_true rfl) rfl ?_
        refine qq_iload_n dX7_areNear_51 rfl 3 rfl ?_
        refine qq_if_ne (tgt := 60) dX7_areNear_52 (by decide) (fun _ => ?_) (fun z => absurd z (by decide))
        refine qq_aload_n dX7_areNear_60 rfl 0 rfl ?_
        refine mx_get hS dX7_areNear_61 5 (by decide) rfl kl_X7_31 ?_
        refine qq_iload_n dX7_areNear_64 rfl 1 rfl ?_
        refine qq_iald dX7_areNear_65 hS.2.2.2.2.1 za ?_
        refine qq_aload_n dX7_areNear_66 rfl 0 rfl ?_
        refine mx_get hS dX7_areNear_67 5 (by decide) rfl kl_X7_31 ?_
        refine qq_iload_n dX7_areNear_70 rfl 2 rfl ?_
        refine qq_iald dX7_areNear_71 hS.2.2.2.2.1 zb ?_
        refine qq_icmp_ne (tgt := 79) dX7_areNear_72 (by decide) (fun zc10 => ?_) (fun zc10 => ?_)
        · refine qq_iconst (v := 0) dX7_areNear_79 (by decide) ?_
          have ze : r_X7_areNear a b S = 0 := by
            rw [r_X7_areNear, if_pos zc1, if_neg zc5, if_neg zc9, if_neg zc10]
          exact qq_iret dX7_areNear_80 rfl rfl ⟨by rw [ze], rfl⟩
        · refine qq_iconst (v := 1) dX7_areNear_75 (by decide) ?_
          refine qq_goto (tgt := 80) dX7_areNear_76 (by decide) ?_
          have ze : r_X7_areNear a b S = 1 := by
            rw [r_X7_areNear, if_pos zc1, if_neg zc5, if_neg zc9, if_pos zc10]
          exact qq_iret dX7_areNear_80 rfl rfl ⟨by rw [ze], rfl⟩
      · refine qq_aload_n dX7_areNear_34 rfl 0 rfl ?_
        refine mx_get hS dX7_areNear_35 4 (by decide) rfl kl_X7_28 ?_
        refine qq_iload_n dX7_areNear_38 rfl 1 rfl ?_
        refine qq_iald dX7_areNear_39 hS.2.2.2.1 za ?_
        refine qq_iconst (v := 4) dX7_areNear_40 (by decide) ?_
        refine qq_icmp_le (tgt := 48) dX7_areNear_41 (by decide) (fun zc11 => ?_) (fun zc11 => ?_)
        · refine qq_iconst (v := 0) dX7_areNear_48 (by decide) ?_
          refine qq_istore (loc' := [(0, .ref 84), (1, .int a), (2, .int b), (3, .int 1), (4, .int 0)]) dX7_areNear_49 [1, 2, 3, 4, 0] (Nat.le_of_ble_eq_true rfl) rfl ?_
          refine qq_iload_n dX7_areNear_51 rfl 3 rfl ?_
          refine qq_if_ne (tgt := 60) dX7_areNear_52 (by decide) (fun _ => ?_) (fun z => absurd z (by decide))
          refine qq_aload_n dX7_areNear_60 rfl 0 rfl ?_
          refine mx_get hS dX7_areNear_61 5 (by decide) rfl kl_X7_31 ?_
          refine qq_iload_n dX7_areNear_64 rfl 1 rfl ?_
          refine qq_iald dX7_areNear_65 hS.2.2.2.2.1 za ?_
          refine qq_aload_n dX7_areNear_66 rfl 0 rfl ?_
          refine mx_get hS dX7_areNear_67 5 (by decide) rfl kl_X7_31 ?_
          refine qq_iload_n dX7_areNear_70 rfl 2 rfl ?_
          refine qq_iald dX7_areNear_71 hS.2.2.2.2.1 zb ?_
          refine qq_icmp_ne (tgt := 79) dX7_areNear_72 (by decide) (fun zc12 => ?_) (fun zc12 => ?_)
          · refine qq_iconst (v := 0) dX7_areNear_79 (by decide) ?_
            have ze : r_X7_areNear a b S = 0 := by
              rw [r_X7_areNear, if_pos zc1, if_neg zc5, if_pos zc9, if_pos zc11, if_neg zc12]
            exact qq_iret dX7_areNear_80 rfl rfl ⟨by rw [ze], rfl⟩
          · refine qq_iconst (v := 1) dX7_areNear_75 (by decide) ?_
            refine qq_goto (tgt := 80) dX7_areNear_76 (by decide) ?_
            have ze : r_X7_areNear a b S = 1 := by
              rw [r_X7_areNear, if_pos zc1, if_neg zc5, if_pos zc9, if_pos zc11, if_pos zc12]
            exact qq_iret dX7_areNear_80 rfl rfl ⟨by rw [ze], rfl⟩
        · refine qq_iconst (v := 1) dX7_areNear_44 (by decide) ?_
          refine qq_goto (tgt := 49) dX7_areNear_45 (by decide) ?_
          refine qq_istore (loc' := [(0, .ref 84), (1, .int a), (2, .int b), (3, .int 1), (4, .int 1)]) dX7_areNear_49 [1, 2, 3, 4, 0] (Nat.le_of_ble_eq_true rfl) rfl ?_
          refine qq_iload_n dX7_areNear_51 rfl 3 rfl ?_
          refine qq_if_ne (tgt := 60) dX7_areNear_52 (by decide) (fun _ => ?_) (fun z => absurd z (by decide))
          refine qq_aload_n dX7_areNear_60 rfl 0 rfl ?_
          refine mx_get hS dX7_areNear_61 5 (by decide) rfl kl_X7_31 ?_
          refine qq_iload_n dX7_areNear_64 rfl 1 rfl ?_
          refine qq_iald dX7_areNear_65 hS.2.2.2.2.1 za ?_
          refine qq_aload_n dX7_areNear_66 rfl 0 rfl ?_
          refine mx_get hS dX7_areNear_67 5 (by decide) rfl kl_X7_31 ?_
          refine qq_iload_n dX7_areNear_70 rfl 2 rfl ?_
          refine qq_iald dX7_areNear_71 hS.2.2.2.2.1 zb ?_
          refine qq_icmp_ne (tgt := 79) dX7_areNear_72 (by decide) (fun zc13 => ?_) (fun zc13 => ?_)
          · refine qq_iconst (v := 0) dX7_areNear_79 (by decide) ?_
            have ze : r_X7_areNear a b S = 0 := by
              rw [r_X7_areNear, if_pos zc1, if_neg zc5, if_pos zc9, if_neg zc11, if_neg zc13]
            exact qq_iret dX7_areNear_80 rfl rfl ⟨by rw [ze], rfl⟩
          · refine qq_iconst (v := 1) dX7_areNear_75 (by decide) ?_
            refine qq_goto (tgt := 80) dX7_areNear_76 (by decide) ?_
            have ze : r_X7_areNear a b S = 1 := by
              rw [r_X7_areNear, if_pos zc1, if_neg zc5, if_pos zc9, if_neg zc11, if_pos zc13]
            exact qq_iret dX7_areNear_80 rfl rfl ⟨by rw [ze], rfl⟩
def r_X7_come (cell : Int32) (kd : Int32) (q9 : Int32) (u9 : Int32)  (S : sM) : Int32 × sM := if (S.1 cell.toNatClampNeg) = kd then if (S.2.1 cell.toNatClampNeg) = q9 then if (S.2.2.1 cell.toNatClampNeg) = u9 then (0, (upd S.1 cell.toNatClampNeg kd, upd S.2.1 cell.toNatClampNeg q9, upd S.2.2.1 cell.toNatClampNeg (vp_nar .boolean u9), S.2.2.2.1 + 1, S.2.2.2.2.1, S.2.2.2.2.2.1, S.2.2.2.2.2.2)) else (1, (upd S.1 cell.toNatClampNeg kd, upd S.2.1 cell.toNatClampNeg q9, upd S.2.2.1 cell.toNatClampNeg (vp_nar .boolean u9), S.2.2.2.1 + 1, S.2.2.2.2.1, S.2.2.2.2.2.1, S.2.2.2.2.2.2)) else (1, (upd S.1 cell.toNatClampNeg kd, upd S.2.1 cell.toNatClampNeg q9, upd S.2.2.1 cell.toNatClampNeg (vp_nar .boolean u9), S.2.2.2.1 + 1, S.2.2.2.2.1, S.2.2.2.2.2.1, S.2.2.2.2.2.2)) else (1, (upd S.1 cell.toNatClampNeg kd, upd S.2.1 cell.toNatClampNeg q9, upd S.2.2.1 cell.toNatClampNeg (vp_nar .boolean u9), S.2.2.2.1 + 1, S.2.2.2.2.1, S.2.2.2.2.2.1, S.2.2.2.2.2.2))
set_option maxRecDepth 4000 in
theorem mt_X7_come (hp : qq_H) (A : qA) (S : sM) (hS : ms_M A S hp) (cell : Int32) (kd : Int32) (q9 : Int32) (u9 : Int32)     (zcell : vp_in cell 8) : qq_Mt mX7_come [.ref 84, .int cell, .int kd, .int q9, .int u9] hp 0 0 (fun v hp' => v = some (.int ((r_X7_come cell kd q9 u9 S).1)) ∧ ms_M A ((r_X7_come cell kd q9 u9 S).2) hp' ∧ fr A hp hp') (fun _ _ => False) := by
  refine qq_met pn_X7 (Nat.le_of_ble_eq_true rfl) (Nat.le_of_ble_eq_true rfl) kc_X7_come ?_
  show qq_Go _ hp 0 0 0 [(0, .ref 84), (1, .int cell), (2, .int kd), (3, .int q9), (4, .int u9)] [] _ _
  refine qq_aload_n dX7_come_0 rfl 0 rfl ?_
  refine mx_get hS dX7_come_1 4 (by decide) rfl kl_X7_28 ?_
  refine qq_iload_n dX7_come_4 rfl 1 rfl ?_
  refine qq_iald dX7_come_5 hS.2.2.2.1 zcell ?_
  refine qq_iload_n dX7_come_6 rfl 2 rfl ?_
  refine qq_icmp_ne (tgt := 35) dX7_come_7 (by decide) (fun zc1 => ?_) (fun zc1 => ?_)
  · refine qq_iconst (v := 0) dX7_come_35 (by decide) ?_
    refine qq_istore (loc' := [(0, .ref 84), (1, .int cell), (2, .int kd), (3, .int q9), (4, .int u9), (5, .int 0)]) dX7_come_36 [1, 2, 3, 4, 5, 0] (Nat.le_of_ble_eq_true rfl) rfl ?_
    refine qq_aload_n dX7_come_38 rfl 0 rfl ?_
    refine mx_get hS dX7_come_39 4 (by decide) rfl kl_X7_28 ?_
    refine qq_iload_n dX7_come_42 rfl 1 rfl ?_
    refine qq_iload_n dX7_come_43 rfl 2 rfl ?_
    refine mx_st1 hS dX7_come_44 zcell (fun hp1 hS1 fr1 _ _ => ?_)
    replace hS1 : ms_M A (upd S.1 cell.toNatClampNeg kd, S.2.1, S.2.2.1, S.2.2.2.1, S.2.2.2.2.1, S.2.2.2.2.2.1, S.2.2.2.2.2.2) hp1 := hS1
    refine qq_aload_n dX7_come_45 rfl 0 rfl ?_
    refine mx_get hS1 dX7_come_46 5 (by decide) rfl kl_X7_31 ?_
    refine qq_iload_n dX7_come_49 rfl 1 rfl ?_
    refine qq_iload_n dX7_come_50 rfl 3 rfl ?_
    refine mx_st2 hS1 dX7_come_51 zcell (fun hp2 hS2 fr2 _ _ => ?_)
    replace hS2 : ms_M A (upd S.1 cell.toNatClampNeg kd, upd S.2.1 cell.toNatClampNeg q9, S.2.2.1, S.2.2.2.1, S.2.2.2.2.1, S.2.2.2.2.2.1, S.2.2.2.2.2.2) hp2 := hS2
    refine qq_aload_n dX7_come_52 rfl 0 rfl ?_
    refine mx_get hS2 dX7_come_53 6 (by decide) rfl kl_X7_34 ?_
    refine qq_iload_n dX7_come_56 rfl 1 rfl ?_
    refine qq_iload dX7_come_57 4 rfl ?_
    refine mx_st3 hS2 dX7_come_59 zcell (fun hp3 hS3 fr3 _ _ => ?_)
    replace hS3 : ms_M A (upd S.1 cell.toNatClampNeg kd, upd S.2.1 cell.toNatClampNeg q9, upd S.2.2.1 cell.toNatClampNeg (vp_nar .boolean u9), S.2.2.2.1, S.2.2.2.2.1, S.2.2.2.2.2.1, S.2.2.2.2.2.2) hp3 := hS3
    refine qq_aload_n dX7_come_60 rfl 0 rfl ?_
    refine qq_dup dX7_come_61 rfl ?_
    refine mx_get hS3 dX7_come_62 7 (by decide) rfl kl_X7_117 ?_
    show qq_Go _ hp3 (0) (0) 65 [(0, .ref 84), (1, .int cell), (2, .int kd), (3, .int q9), (4, .int u9), (5, .int 0)] [.int S.2.2.2.1, .ref 84] _ _
    refine qq_iconst (v := 1) dX7_come_65 (by decide) ?_
    refine qq_iadd dX7_come_66 ?_
    refine mx_put7 hS3 dX7_come_67 kl_X7_117 (fun hp4 hS4 fq4 => ?_)
    have fr4 := fq4 A
    replace hS4 : ms_M A (upd S.1 cell.toNatClampNeg kd, upd S.2.1 cell.toNatClampNeg q9, upd S.2.2.1 cell.toNatClampNeg (vp_nar .boolean u9), S.2.2.2.1 + 1, S.2.2.2.2.1, S.2.2.2.2.2.1, S.2.2.2.2.2.2) hp4 := hS4
    refine qq_iload dX7_come_70 5 rfl ?_
    refine qq_if_eq (tgt := 79) dX7_come_72 (by decide) (fun _ => ?_) (fun z => absurd (by decide) z)
    refine qq_iconst (v := 1) dX7_come_79 (by decide) ?_
    have ze : r_X7_come cell kd q9 u9 S = (1, (upd S.1 cell.toNatClampNeg kd, upd S.2.1 cell.toNatClampNeg q9, upd S.2.2.1 cell.toNatClampNeg (vp_nar .boolean u9), S.2.2.2.1 + 1, S.2.2.2.2.1, S.2.2.2.2.2.1, S.2.2.2.2.2.2)) := by
      rw [r_X7_come, if_neg zc1]
    exact qq_iret dX7_come_80 rfl rfl ⟨by rw [ze], by rw [ze]; first | exact ms_pr hS4 | exact hS4, (fr_t (fr_t (fr_t fr1 fr2) fr3) fr4)⟩
  · refine qq_aload_n dX7_come_10 rfl 0 rfl ?_
    refine mx_get hS dX7_come_11 5 (by decide) rfl kl_X7_31 ?_
    refine qq_iload_n dX7_come_14 rfl 1 rfl ?_
    refine qq_iald dX7_come_15 hS.2.2.2.2.1 zcell ?_
    refine qq_iload_n dX7_come_16 rfl 3 rfl ?_
    refine qq_icmp_ne (tgt := 35) dX7_come_17 (by decide) (fun zc2 => ?_) (fun zc2 => ?_)
    · refine qq_iconst (v := 0) dX7_come_35 (by decide) ?_
      refine qq_istore (loc' := [(0, .ref 84), (1, .int cell), (2, .int kd), (3, .int q9), (4, .int u9), (5, .int 0)]) dX7_come_36 [1, 2, 3, 4, 5, 0] (Nat.le_of_ble_eq_true rfl) rfl ?_
      refine qq_aload_n dX7_come_38 rfl 0 rfl ?_
      refine mx_get hS dX7_come_39 4 (by decide) rfl kl_X7_28 ?_
      refine qq_iload_n dX7_come_42 rfl 1 rfl ?_
      refine qq_iload_n dX7_come_43 rfl 2 rfl ?_
      refine mx_st1 hS dX7_come_44 zcell (fun hp5 hS5 fr5 _ _ => ?_)
      replace hS5 : ms_M A (upd S.1 cell.toNatClampNeg kd, S.2.1, S.2.2.1, S.2.2.2.1, S.2.2.2.2.1, S.2.2.2.2.2.1, S.2.2.2.2.2.2) hp5 := hS5
      refine qq_aload_n dX7_come_45 rfl 0 rfl ?_
      refine mx_get hS5 dX7_come_46 5 (by decide) rfl kl_X7_31 ?_
      refine qq_iload_n dX7_come_49 rfl 1 rfl ?_
      refine qq_iload_n dX7_come_50 rfl 3 rfl ?_
      refine mx_st2 hS5 dX7_come_51 zcell (fun hp6 hS6 fr6 _ _ => ?_)
      replace hS6 : ms_M A (upd S.1 cell.toNatClampNeg kd, upd S.2.1 cell.toNatClampNeg q9, S.2.2.1, S.2.2.2.1, S.2.2.2.2.1, S.2.2.2.2.2.1, S.2.2.2.2.2.2) hp6 := hS6
      refine qq_aload_n dX7_come_52 rfl 0 rfl ?_
      refine mx_get hS6 dX7_come_53 6 (by decide) rfl kl_X7_34 ?_
      refine qq_iload_n dX7_come_56 rfl 1 rfl ?_
      refine qq_iload dX7_come_57 4 rfl ?_
      refine mx_st3 hS6 dX7_come_59 zcell (fun hp7 hS7 fr7 _ _ => ?_)
      replace hS7 : ms_M A (upd S.1 cell.toNatClampNeg kd, upd S.2.1 cell.toNatClampNeg q9, upd S.2.2.1 cell.toNatClampNeg (vp_nar .boolean u9), S.2.2.2.1, S.2.2.2.2.1, S.2.2.2.2.2.1, S.2.2.2.2.2.2) hp7 := hS7
      refine qq_aload_n dX7_come_60 rfl 0 rfl ?_
      refine qq_dup dX7_come_61 rfl ?_
      refine mx_get hS7 dX7_come_62 7 (by decide) rfl kl_X7_117 ?_
      show qq_Go _ hp7 (0) (0) 65 [(0, .ref 84), (1, .int cell), (2, .int kd), (3, .int q9), (4, .int u9), (5, .int 0)] [.int S.2.2.2.1, .ref 84] _ _
      refine qq_iconst (v := 1) dX7_come_65 (by decide) ?_
      refine qq_iadd dX7_come_66 ?_
      refine mx_put7 hS7 dX7_come_67 kl_X7_117 (fun hp8 hS8 fq8 => ?_)
      have fr8 := fq8 A
      replace hS8 : ms_M A (upd S.1 cell.toNatClampNeg kd, upd S.2.1 cell.toNatClampNeg q9, upd S.2.2.1 cell.toNatClampNeg (vp_nar .boolean u9), S.2.2.2.1 + 1, S.2.2.2.2.1, S.2.2.2.2.2.1, S.2.2.2.2.2.2) hp8 := hS8
      refine qq_iload dX7_come_70 5 rfl ?_
      refine qq_if_eq (tgt := 79) dX7_come_72 (by decide) (fun _ => ?_) (fun z => absurd (by decide) z)
      refine qq_iconst (v := 1) dX7_come_79 (by decide) ?_
      have ze : r_X7_come cell kd q9 u9 S = (1, (upd S.1 cell.toNatClampNeg kd, upd S.2.1 cell.toNatClampNeg q9, upd S.2.2.1 cell.toNatClampNeg (vp_nar .boolean u9), S.2.2.2.1 + 1, S.2.2.2.2.1, S.2.2.2.2.2.1, S.2.2.2.2.2.2)) := by
        rw [r_X7_come, if_pos zc1, if_neg zc2]
      exact qq_iret dX7_come_80 rfl rfl ⟨by rw [ze], by rw [ze]; first | exact ms_pr hS8 | exact hS8, (fr_t (fr_t (fr_t fr5 fr6) fr7) fr8)⟩
    · refine qq_aload_n dX7_come_20 rfl 0 rfl ?_
      refine mx_get hS dX7_come_21 6 (by decide) rfl kl_X7_34 ?_
      refine qq_iload_n dX7_come_24 rfl 1 rfl ?_
      refine qq_zald dX7_come_25 hS.2.2.2.2.2.1 zcell ?_
      refine qq_iload dX7_come_26 4 rfl ?_
      refine qq_icmp_ne (tgt := 35) dX7_come_28 (by decide) (fun zc3 => ?_) (fun zc3 => ?_)
      · refine qq_iconst (v := 0) dX7_come_35 (by decide) ?_
        refine qq_istore (loc' := [(0, .ref 84), (1, .int cell), (2, .int kd), (3, .int q9), (4, .int u9), (5, .int 0)]) dX7_come_36 [1, 2, 3, 4, 5, 0] (Nat.le_of_ble_eq_true rfl) rfl ?_
        refine qq_aload_n dX7_come_38 rfl 0 rfl ?_
        refine mx_get hS dX7_come_39 4 (by decide) rfl kl_X7_28 ?_
        refine qq_iload_n dX7_come_42 rfl 1 rfl ?_
        refine qq_iload_n dX7_come_43 rfl 2 rfl ?_
        refine mx_st1 hS dX7_come_44 zcell (fun hp9 hS9 fr9 _ _ => ?_)
        replace hS9 : ms_M A (upd S.1 cell.toNatClampNeg kd, S.2.1, S.2.2.1, S.2.2.2.1, S.2.2.2.2.1, S.2.2.2.2.2.1, S.2.2.2.2.2.2) hp9 := hS9
        refine qq_aload_n dX7_come_45 rfl 0 rfl ?_
        refine mx_get hS9 dX7_come_46 5 (by decide) rfl kl_X7_31 ?_
        refine qq_iload_n dX7_come_49 rfl 1 rfl ?_
        refine qq_iload_n dX7_come_50 rfl 3 rfl ?_
        refine mx_st2 hS9 dX7_come_51 zcell (fun hp10 hS10 fr10 _ _ => ?_)
        replace hS10 : ms_M A (upd S.1 cell.toNatClampNeg kd, upd S.2.1 cell.toNatClampNeg q9, S.2.2.1, S.2.2.2.1, S.2.2.2.2.1, S.2.2.2.2.2.1, S.2.2.2.2.2.2) hp10 := hS10
        refine qq_aload_n dX7_come_52 rfl 0 rfl ?_
        refine mx_get hS10 dX7_come_53 6 (by decide) rfl kl_X7_34 ?_
        refine qq_iload_n dX7_come_56 rfl 1 rfl ?_
        refine qq_iload dX7_come_57 4 rfl ?_
        refine mx_st3 hS10 dX7_come_59 zcell (fun hp11 hS11 fr11 _ _ => ?_)
        replace hS11 : ms_M A (upd S.1 cell.toNatClampNeg kd, upd S.2.1 cell.toNatClampNeg q9, upd S.2.2.1 cell.toNatClampNeg (vp_nar .boolean u9), S.2.2.2.1, S.2.2.2.2.1, S.2.2.2.2.2.1, S.2.2.2.2.2.2) hp11 := hS11
        refine qq_aload_n dX7_come_60 rfl 0 rfl ?_
        refine qq_dup dX7_come_61 rfl ?_
        refine mx_get hS11 dX7_come_62 7 (by decide) rfl kl_X7_117 ?_
        show qq_Go _ hp11 (0) (0) 65 [(0, .ref 84), (1, .int cell), (2, .int kd), (3, .int q9), (4, .int u9), (5, .int 0)] [.int S.2.2.2.1, .ref 84] _ _
        refine qq_iconst (v := 1) dX7_come_65 (by decide) ?_
        refine qq_iadd dX7_come_66 ?_
        refine mx_put7 hS11 dX7_come_67 kl_X7_117 (fun hp12 hS12 fq12 => ?_)
        have fr12 := fq12 A
        replace hS12 : ms_M A (upd S.1 cell.toNatClampNeg kd, upd S.2.1 cell.toNatClampNeg q9, upd S.2.2.1 cell.toNatClampNeg (vp_nar .boolean u9), S.2.2.2.1 + 1, S.2.2.2.2.1, S.2.2.2.2.2.1, S.2.2.2.2.2.2) hp12 := hS12
        refine qq_iload dX7_come_70 5 rfl ?_
        refine qq_if_eq (tgt := 79) dX7_come_72 (by decide) (fun _ => ?_) (fun z => absurd (by decide) z)
        refine qq_iconst (v := 1) dX7_come_79 (by decide) ?_
        have ze : r_X7_come cell kd q9 u9 S = (1, (upd S.1 cell.toNatClampNeg kd, upd S.2.1 cell.toNatClampNeg q9, upd S.2.2.1 cell.toNatClampNeg (vp_nar .boolean u9), S.2.2.2.1 + 1, S.2.2.2.2.1, S.2.2.2.2.2.1, S.2.2.2.2.2.2)) := by
          rw [r_X7_come, if_pos zc1, if_pos zc2, if_neg zc3]
        exact qq_iret dX7_come_80 rfl rfl ⟨by rw [ze], by rw [ze]; first | exact ms_pr hS12 | exact hS12, (fr_t (fr_t (fr_t fr9 fr10) fr11) fr12)⟩
      · refine qq_iconst (v := 1) dX7_come_31 (by decide) ?_
        refine qq_goto (tgt := 36) dX7_come_32 (by decide) ?_
        refine qq_istore (loc' := [(0, .ref 84), (1, .int cell), (2, .int kd), (3, .int q9), (4, .int u9), (5, .int 1)]) dX7_come_36 [1, 2, 3, 4, 5, 0] (Nat.le_of_ble_eq_true rfl) rfl ?_
        refine qq_aload_n dX7_come_38 rfl 0 rfl ?_
        refine mx_get hS dX7_come_39 4 (by decide) rfl kl_X7_28 ?_
        refine qq_iload_n dX7_come_42 rfl 1 rfl ?_
        refine qq_iload_n dX7_come_43 rfl 2 rfl ?_
        refine mx_st1 hS dX7_come_44 zcell (fun hp13 hS13 fr13 _ _ => ?_)
        replace hS13 : ms_M A (upd S.1 cell.toNatClampNeg kd, S.2.1, S.2.2.1, S.2.2.2.1, S.2.2.2.2.1, S.2.2.2.2.2.1, S.2.2.2.2.2.2) hp13 := hS13
        refine qq_aload_n dX7_come_45 rfl 0 rfl ?_
        refine mx_get hS13 dX7_come_46 5 (by decide) rfl kl_X7_31 ?_
        refine qq_iload_n dX7_come_49 rfl 1 rfl ?_
        refine qq_iload_n dX7_come_50 rfl 3 rfl ?_
        refine mx_st2 hS13 dX7_come_51 zcell (fun hp14 hS14 fr14 _ _ => ?_)
        replace hS14 : ms_M A (upd S.1 cell.toNatClampNeg kd, upd S.2.1 cell.toNatClampNeg q9, S.2.2.1, S.2.2.2.1, S.2.2.2.2.1, S.2.2.2.2.2.1, S.2.2.2.2.2.2) hp14 := hS14
        refine qq_aload_n dX7_come_52 rfl 0 rfl ?_
        refine mx_get hS14 dX7_come_53 6 (by decide) rfl kl_X7_34 ?_
        refine qq_iload_n dX7_come_56 rfl 1 rfl ?_
        refine qq_iload dX7_come_57 4 rfl ?_
        refine mx_st3 hS14 dX7_come_59 zcell (fun hp15 hS15 fr15 _ _ => ?_)
        replace hS15 : ms_M A (upd S.1 cell.toNatClampNeg kd, upd S.2.1 cell.toNatClampNeg q9, upd S.2.2.1 cell.toNatClampNeg (vp_nar .boolean u9), S.2.2.2.1, S.2.2.2.2.1, S.2.2.2.2.2.1, S.2.2.2.2.2.2) hp15 := hS15
        refine qq_aload_n dX7_come_60 rfl 0 rfl ?_
        refine qq_dup dX7_come_61 rfl ?_
        refine mx_get hS15 dX7_come_62 7 (by decide) rfl kl_X7_117 ?_
        show qq_Go _ hp15 (0) (0) 65 [(0, .ref 84), (1, .int cell), (2, .int kd), (3, .int q9), (4, .int u9), (5, .int 1)] [.int S.2.2.2.1, .ref 84] _ _
        refine qq_iconst (v := 1) dX7_come_65 (by decide) ?_
        refine qq_iadd dX7_come_66 ?_
        refine mx_put7 hS15 dX7_come_67 kl_X7_117 (fun hp16 hS16 fq16 => ?_)
        have fr16 := fq16 A
        replace hS16 : ms_M A (upd S.1 cell.toNatClampNeg kd, upd S.2.1 cell.toNatClampNeg q9, upd S.2.2.1 cell.toNatClampNeg (vp_nar .boolean u9), S.2.2.2.1 + 1, S.2.2.2.2.1, S.2.2.2.2.2.1, S.2.2.2.2.2.2) hp16 := hS16
        refine qq_iload dX7_come_70 5 rfl ?_
        refine qq_if_eq (tgt := 79) dX7_come_72 (by decide) (fun z => absurd z (by decide)) (fun _ => ?_)
        refine qq_iconst (v := 0) dX7_come_75 (by decide) ?_
        refine qq_goto (tgt := 80) dX7_come_76 (by decide) ?_
        have ze : r_X7_come cell kd q9 u9 S = (0, (upd S.1 cell.toNatClampNeg kd, upd S.2.1 cell.toNatClampNeg q9, upd S.2.2.1 cell.toNatClampNeg (vp_nar .boolean u9), S.2.2.2.1 + 1, S.2.2.2.2.1, S.2.2.2.2.2.1, S.2.2.2.2.2.2)) := by
          rw [r_X7_come, if_pos zc1, if_pos zc2, if_pos zc3]
        exact qq_iret dX7_come_80 rfl rfl ⟨by rw [ze], by rw [ze]; first | exact ms_pr hS16 | exact hS16, (fr_t (fr_t (fr_t fr13 fr14) fr15) fr16)⟩
def r_X7_take (cell : Int32) (into : Int32)  (S : sM) : Int32 × sM := ((r_X7_come into (S.1 cell.toNatClampNeg) (S.2.1 cell.toNatClampNeg) (S.2.2.1 cell.toNatClampNeg) S).1, (r_X7_come into (S.1 cell.toNatClampNeg) (S.2.1 cell.toNatClampNeg) (S.2.2.1 cell.toNatClampNeg) S).2)
set_option maxRecDepth 4000 in
theorem mt_X7_take (hp : qq_H) (A : qA) (S : sM) (hS : ms_M A S hp) (cell : Int32) (into : Int32)     (zcell : vp_in cell 8) (zinto : vp_in into 8) : qq_Mt mX7_take [.ref 84, .int cell, .int into] hp 0 0 (fun v hp' => v = some (.int ((r_X7_take cell into S).1)) ∧ ms_M A ((r_X7_take cell into S).2) hp' ∧ fr A hp hp') (fun _ _ => False) := by
  refine qq_met pn_X7 (Nat.le_of_ble_eq_true rfl) (Nat.le_of_ble_eq_true rfl) kc_X7_take ?_
  show qq_Go _ hp 0 0 0 [(0, .ref 84), (1, .int cell), (2, .int into)] [] _ _
  refine qq_aload_n dX7_take_0 rfl 0 rfl ?_
  refine qq_iload_n dX7_take_1 rfl 2 rfl ?_
  refine qq_aload_n dX7_take_2 rfl 0 rfl ?_
  refine mx_get hS dX7_take_3 4 (by decide) rfl kl_X7_28 ?_
  refine qq_iload_n dX7_take_6 rfl 1 rfl ?_
  refine qq_iald dX7_take_7 hS.2.2.2.1 zcell ?_
  refine qq_aload_n dX7_take_8 rfl 0 rfl ?_
  refine mx_get hS dX7_take_9 5 (by decide) rfl kl_X7_31 ?_
  refine qq_iload_n dX7_take_12 rfl 1 rfl ?_
  refine qq_iald dX7_take_13 hS.2.2.2.2.1 zcell ?_
  refine qq_aload_n dX7_take_14 rfl 0 rfl ?_
  refine mx_get hS dX7_take_15 6 (by decide) rfl kl_X7_34 ?_
  refine qq_iload_n dX7_take_18 rfl 1 rfl ?_
  refine qq_zald dX7_take_19 hS.2.2.2.2.2.1 zcell ?_
  refine qq_less (bc' := 0 + 0) (bs' := 0 + 0) (by omega) (by omega) ?_
  refine qq_callV (bc := 0) (bs := 0) (mc := 0) (ms := 0) (o := 84) (ci := 4) (N := 11) (T := TX7) (as := [.int into, .int (S.1 cell.toNatClampNeg), .int (S.2.1 cell.toNatClampNeg), .int (S.2.2.1 cell.toNatClampNeg)]) (rest := []) dX7_take_20 hS.2.2.1 (by decide) rfl (mt_X7_come hp A S hS into (S.1 cell.toNatClampNeg) (S.2.1 cell.toNatClampNeg) (S.2.2.1 cell.toNatClampNeg) zinto) rfl kl_X7_130 kn_X7_come ke_X7_come ki_X7 kc_X7_come kd_X7_come rfl (by decide) (by decide) (Nat.le_of_ble_eq_true rfl) (fun v hp1 hv _ _ => ?_) (fun E hp' zx _ _ => zx.elim)
  obtain ⟨rfl, hS1, fr1⟩ := hv
  show qq_Go _ hp1 (0) (0) 23 [(0, .ref 84), (1, .int cell), (2, .int into)] [.int ((r_X7_come into (S.1 cell.toNatClampNeg) (S.2.1 cell.toNatClampNeg) (S.2.2.1 cell.toNatClampNeg) S).1)] _ _
  have ze : r_X7_take cell into S = ((r_X7_come into (S.1 cell.toNatClampNeg) (S.2.1 cell.toNatClampNeg) (S.2.2.1 cell.toNatClampNeg) S).1, (r_X7_come into (S.1 cell.toNatClampNeg) (S.2.1 cell.toNatClampNeg) (S.2.2.1 cell.toNatClampNeg) S).2) := by
    rw [r_X7_take]
  exact qq_iret dX7_take_23 rfl rfl ⟨by rw [ze], by rw [ze]; first | exact ms_pr hS1 | exact hS1, fr1⟩