def r_X7_knock  (S : sM) : Int32 × sM := (S.2.2.2.2.2.1 + 1, (S.1, S.2.1, S.2.2.1, S.2.2.2.1, S.2.2.2.2.1, S.2.2.2.2.2.1 + 1, 0))
set_option maxRecDepth 4000 in
theorem mt_X7_knock {LG : Nat → qR} (hp : qq_H) (S : sM) (hS : ms_M LG S hp)   : qq_Mt mX7_knock [.ref 84] hp 0 0 (fun v hp' => v = some (.int ((r_X7_knock S).1)) ∧ ms_M LG ((r_X7_knock S).2) hp' ∧ sm_M hp hp') (fun _ _ => False) := by
  refine qq_met (by decide +kernel) (Nat.le_of_ble_eq_true rfl) (Nat.le_of_ble_eq_true rfl) kc_X7_knock ?_
  show qq_Go _ hp 0 0 0 [(0, .ref 84)] [] _ _
  refine qq_aload_n dX7_knock_0 rfl 0 rfl ?_
  refine qq_iconst (v := 0) dX7_knock_1 (by decide) ?_
  refine mx_put10 hS dX7_knock_2 kl_X7_50 (fun hp1 hS1 sM1 => ?_)
  replace hS1 : ms_M LG (S.1, S.2.1, S.2.2.1, S.2.2.2.1, S.2.2.2.2.1, S.2.2.2.2.2.1, 0) hp1 := hS1
  refine qq_aload_n dX7_knock_5 rfl 0 rfl ?_
  refine qq_dup dX7_knock_6 rfl ?_
  refine mx_get hS1 dX7_knock_7 9 (by decide) rfl kl_X7_266 ?_
  refine qq_iconst (v := 1) dX7_knock_10 (by decide) ?_
  refine qq_iadd dX7_knock_11 ?_
  refine mx_put9 hS1 dX7_knock_12 kl_X7_266 (fun hp2 hS2 sM2 => ?_)
  replace hS2 : ms_M LG (S.1, S.2.1, S.2.2.1, S.2.2.2.1, S.2.2.2.2.1, S.2.2.2.2.2.1 + 1, 0) hp2 := hS2
  refine qq_aload_n dX7_knock_15 rfl 0 rfl ?_
  refine mx_get hS2 dX7_knock_16 9 (by decide) rfl kl_X7_266 ?_
  have ze : r_X7_knock S = (S.2.2.2.2.2.1 + 1, (S.1, S.2.1, S.2.2.1, S.2.2.2.1, S.2.2.2.2.1, S.2.2.2.2.2.1 + 1, 0)) := by
    rw [r_X7_knock]
  exact qq_iret dX7_knock_19 rfl rfl ⟨by rw [ze], by rw [ze]; exact hS2, (smM_t sM1 sM2)⟩
def r_X7_thrown  (S : sM) : Int32 := S.2.2.2.2.2.2
set_option maxRecDepth 4000 in
theorem mt_X7_thrown {LG : Nat → qR} (hp : qq_H) (S : sM) (hS : ms_M LG S hp)   : qq_Mt mX7_thrown [.ref 84] hp 0 0 (fun v hp' => v = some (.int (r_X7_thrown S)) ∧ hp = hp') (fun _ _ => False) := by
  refine qq_met (by decide +kernel) (Nat.le_of_ble_eq_true rfl) (Nat.le_of_ble_eq_true rfl) kc_X7_thrown ?_
  show qq_Go _ hp 0 0 0 [(0, .ref 84)] [] _ _
  refine qq_aload_n dX7_thrown_0 rfl 0 rfl ?_
  refine mx_get hS dX7_thrown_1 10 (by decide) rfl kl_X7_50 ?_
  have ze : r_X7_thrown S = S.2.2.2.2.2.2 := by
    rw [r_X7_thrown]
  exact qq_iret dX7_thrown_4 rfl rfl ⟨by rw [ze], rfl⟩
def r_X7_refused  (S : sM) : Int32 × sM := ((-9), (S.1, S.2.1, S.2.2.1, S.2.2.2.1, S.2.2.2.2.1 + 1, S.2.2.2.2.2.1, S.2.2.2.2.2.2))
set_option maxRecDepth 4000 in
theorem mt_X7_refused {LG : Nat → qR} (hp : qq_H) (S : sM) (hS : ms_M LG S hp)   : qq_Mt mX7_refused [.ref 84] hp 0 0 (fun v hp' => v = some (.int ((r_X7_refused S).1)) ∧ ms_M LG ((r_X7_refused S).2) hp' ∧ sm_M hp hp') (fun _ _ => False) := by
  refine qq_met (by decide +kernel) (Nat.le_of_ble_eq_true rfl) (Nat.le_of_ble_eq_true rfl) kc_X7_refused ?_
  show qq_Go _ hp 0 0 0 [(0, .ref 84)] [] _ _
  refine qq_aload_n dX7_refused_0 rfl 0 rfl ?_
  refine qq_dup dX7_refused_1 rfl ?_
  refine mx_get hS dX7_refused_2 8 (by decide) rfl kl_X7_120 ?_
  refine qq_iconst (v := 1) dX7_refused_5 (by decide) ?_
  refine qq_iadd dX7_refused_6 ?_
  refine mx_put8 hS dX7_refused_7 kl_X7_120 (fun hp1 hS1 sM1 => ?_)
  replace hS1 : ms_M LG (S.1, S.2.1, S.2.2.1, S.2.2.2.1, S.2.2.2.2.1 + 1, S.2.2.2.2.2.1, S.2.2.2.2.2.2) hp1 := hS1
  refine qq_bipush (v := (-9)) dX7_refused_10 (by decide) ?_
  have ze : r_X7_refused S = ((-9), (S.1, S.2.1, S.2.2.1, S.2.2.2.1, S.2.2.2.2.1 + 1, S.2.2.2.2.2.1, S.2.2.2.2.2.2)) := by
    rw [r_X7_refused]
  exact qq_iret dX7_refused_12 rfl rfl ⟨by rw [ze], by rw [ze]; exact hS1, sM1⟩
def r_X7_isArgument (is9 : Int32) (S : sM) : Int32 × sM := if is9 = 0 then (is9, (S.1, S.2.1, S.2.2.1, S.2.2.2.1, S.2.2.2.2.1, S.2.2.2.2.2.1, 1)) else (is9, (S.1, S.2.1, S.2.2.1, S.2.2.2.1, S.2.2.2.2.1, S.2.2.2.2.2.1, 0))
set_option maxRecDepth 4000 in
theorem mt_X7_isArgument {LG : Nat → qR} (hp : qq_H) (S : sM) (hS : ms_M LG S hp) (is9 : Int32) (zb : is9 = 0 ∨ is9 = 1) : qq_Mt mX7_isArgument [.ref 84, .int is9] hp 0 0 (fun v hp' => v = some (.int ((r_X7_isArgument is9 S).1)) ∧ ms_M LG ((r_X7_isArgument is9 S).2) hp' ∧ sm_M hp hp') (fun _ _ => False) := by
  refine qq_met (by decide +kernel) (Nat.le_of_ble_eq_true rfl) (Nat.le_of_ble_eq_true rfl) kc_X7_isArgument ?_
  show qq_Go _ hp 0 0 0 [(0, .ref 84), (1, .int is9)] [] _ _
  refine qq_aload_n dX7_isArgument_0 rfl 0 rfl ?_
  refine qq_iload_n dX7_isArgument_1 rfl 1 rfl ?_
  refine qq_if_eq (tgt := 9) dX7_isArgument_2 (by decide) (fun zc1 => ?_) (fun zc1 => ?_)
  · refine qq_iconst (v := 1) dX7_isArgument_9 (by decide) ?_
    refine mx_put10 hS dX7_isArgument_10 kl_X7_50 (fun hp1 hS1 sM1 => ?_)
    replace hS1 : ms_M LG (S.1, S.2.1, S.2.2.1, S.2.2.2.1, S.2.2.2.2.1, S.2.2.2.2.2.1, 1) hp1 := hS1
    refine qq_iload_n dX7_isArgument_13 rfl 1 rfl ?_
    have ze : r_X7_isArgument is9 S = (is9, (S.1, S.2.1, S.2.2.1, S.2.2.2.1, S.2.2.2.2.1, S.2.2.2.2.2.1, 1)) := by
      rw [r_X7_isArgument, if_pos zc1]
    exact qq_iret dX7_isArgument_14 rfl (qq_nz zb) ⟨by rw [ze], by rw [ze]; exact hS1, sM1⟩
  · refine qq_iconst (v := 0) dX7_isArgument_5 (by decide) ?_
    refine qq_goto (tgt := 10) dX7_isArgument_6 (by decide) ?_
    refine mx_put10 hS dX7_isArgument_10 kl_X7_50 (fun hp2 hS2 sM2 => ?_)
    replace hS2 : ms_M LG (S.1, S.2.1, S.2.2.1, S.2.2.2.1, S.2.2.2.2.1, S.2.2.2.2.2.1, 0) hp2 := hS2
    refine qq_iload_n dX7_isArgument_13 rfl 1 rfl ?_
    have ze : r_X7_isArgument is9 S = (is9, (S.1, S.2.1, S.2.2.1, S.2.2.2.1, S.2.2.2.2.1, S.2.2.2.2.2.1, 0)) := by
      rw [r_X7_isArgument, if_neg zc1]
    exact qq_iret dX7_isArgument_14 rfl (qq_nz zb) ⟨by rw [ze], by rw [ze]; exact hS2, sM2⟩
def r_X7_isNought (cell : Int32) (S : sM) : Int32 := if (S.1 cell.toNatClampNeg) = 0 then if (S.2.1 cell.toNatClampNeg) = 0 then 1 else 0 else 0
theorem bz_X7_isNought (cell : Int32) (S : sM) : r_X7_isNought cell S = 0 ∨ r_X7_isNought cell S = 1 := by
  unfold r_X7_isNought
  exact (qq_i01 (qq_i01 (Or.inr rfl) (Or.inl rfl)) (Or.inl rfl))
set_option maxRecDepth 4000 in
theorem mt_X7_isNought {LG : Nat → qR} (hp : qq_H) (S : sM) (hS : ms_M LG S hp) (cell : Int32) (zi : vp_in cell 8) : qq_Mt mX7_isNought [.ref 84, .int cell] hp 0 0 (fun v hp' => v = some (.int (r_X7_isNought cell S)) ∧ hp = hp') (fun _ _ => False) := by
  refine qq_met (by decide +kernel) (Nat.le_of_ble_eq_true rfl) (Nat.le_of_ble_eq_true rfl) kc_X7_isNought ?_
  show qq_Go _ hp 0 0 0 [(0, .ref 84), (1, .int cell)] [] _ _
  refine qq_aload_n dX7_isNought_0 rfl 0 rfl ?_
  refine mx_get hS dX7_isNought_1 4 (by decide) rfl kl_X7_28 ?_
  refine qq_iload_n dX7_isNought_4 rfl 1 rfl ?_
  refine qq_iald dX7_isNought_5 hS.2.2.2.1 (by first | assumption | exact qm_in8 (by assumption) (by assumption) | exact qm_in8d (by assumption) (by assumption) | decide) ?_
  refine qq_if_ne (tgt := 22) dX7_isNought_6 (by decide) (fun zc1 => ?_) (fun zc1 => ?_)
  · refine qq_iconst (v := 0) dX7_isNought_22 (by decide) ?_
    have ze : r_X7_isNought cell S = 0 := by
      rw [r_X7_isNought, if_neg zc1]
    exact qq_iret dX7_isNought_23 rfl rfl ⟨by rw [ze], rfl⟩
  · refine qq_aload_n dX7_isNought_9 rfl 0 rfl ?_
    refine mx_get hS dX7_isNought_10 5 (by decide) rfl kl_X7_31 ?_
    refine qq_iload_n dX7_isNought_13 rfl 1 rfl ?_
    refine qq_iald dX7_isNought_14 hS.2.2.2.2.1 (by first | assumption | exact qm_in8 (by assumption) (by assumption) | exact qm_in8d (by assumption) (by assumption) | decide) ?_
    refine qq_if_ne (tgt := 22) dX7_isNought_15 (by decide) (fun zc2 => ?_) (fun zc2 => ?_)
    · refine qq_iconst (v := 0) dX7_isNought_22 (by decide) ?_
      have ze : r_X7_isNought cell S = 0 := by
        rw [r_X7_isNought, if_pos zc1, if_neg zc2]
      exact qq_iret dX7_isNought_23 rfl rfl ⟨by rw [ze], rfl⟩
    · refine qq_iconst (v := 1) dX7_isNought_18 (by decide) ?_
      refine qq_goto (tgt := 23) dX7_isNought_19 (by decide) ?_
      have ze : r_X7_isNought cell S = 1 := by
        rw [r_X7_isNought, if_pos zc1, if_pos zc2]
      exact qq_iret dX7_isNought_23 rfl rfl ⟨by rw [ze], rfl⟩