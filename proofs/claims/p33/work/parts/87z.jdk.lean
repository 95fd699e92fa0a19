def f_J13_compare_74951 (a : Int64) (b : Int64) : Int32 := if b ≤ a then if a = b then 0 else 1 else (-1)
set_option maxRecDepth 4000 in
theorem mt_J13_compare_74951 (hp : qq_H) (a : Int64) (b : Int64) : qq_Mt mJ13_compare_74951 [.long a, .long b] hp 0 0 (fun v hp' => v = some (.int (f_J13_compare_74951 a b)) ∧ hp = hp') (fun _ _ => False) := by
  refine qq_met pn_J13 (Nat.le_of_ble_eq_true rfl) (Nat.le_of_ble_eq_true rfl) kc_J13_compare_74951 ?_
  show qq_Go _ hp 0 0 0 [(0, .long a), (2, .long b)] [] _ _
  refine qq_lload_n dJ13_compare_74951_0 rfl 0 rfl ?_
  refine qq_lload_n dJ13_compare_74951_1 rfl 1 rfl ?_
  refine qq_lc_ge (tgt := 10) dJ13_compare_74951_2 dJ13_compare_74951_3 (by decide) (fun zc1 => ?_) (fun zc1 => ?_)
  · refine qq_lload_n dJ13_compare_74951_10 rfl 0 rfl ?_
    refine qq_lload_n dJ13_compare_74951_11 rfl 1 rfl ?_
    refine qq_lc_ne (tgt := 20) dJ13_compare_74951_12 dJ13_compare_74951_13 (by decide) (fun zc2 => ?_) (fun zc2 => ?_)
    · refine qq_iconst (v := 1) dJ13_compare_74951_20 (by decide) ?_
      refine qq_iret dJ13_compare_74951_21 rfl rfl ⟨?_, rfl⟩
      rw [f_J13_compare_74951, if_pos zc1, if_neg zc2]
    · refine qq_iconst (v := 0) dJ13_compare_74951_16 (by decide) ?_
      refine qq_goto (tgt := 21) dJ13_compare_74951_17 (by decide) ?_
      refine qq_iret dJ13_compare_74951_21 rfl rfl ⟨?_, rfl⟩
      rw [f_J13_compare_74951, if_pos zc1, if_pos zc2]
  · refine qq_iconst (v := (-1)) dJ13_compare_74951_6 (by decide) ?_
    refine qq_goto (tgt := 21) dJ13_compare_74951_7 (by decide) ?_
    refine qq_iret dJ13_compare_74951_21 rfl rfl ⟨?_, rfl⟩
    rw [f_J13_compare_74951, if_neg zc1]
def f_J6_compare_7cf53 (a : Int32) (b : Int32) : Int32 := if b ≤ a then if a = b then 0 else 1 else (-1)
set_option maxRecDepth 4000 in
theorem mt_J6_compare_7cf53 (hp : qq_H) (a : Int32) (b : Int32) : qq_Mt mJ6_compare_7cf53 [.int a, .int b] hp 0 0 (fun v hp' => v = some (.int (f_J6_compare_7cf53 a b)) ∧ hp = hp') (fun _ _ => False) := by
  refine qq_met pn_J6 (Nat.le_of_ble_eq_true rfl) (Nat.le_of_ble_eq_true rfl) kc_J6_compare_7cf53 ?_
  show qq_Go _ hp 0 0 0 [(0, .int a), (1, .int b)] [] _ _
  refine qq_iload_n dJ6_compare_7cf53_0 rfl 0 rfl ?_
  refine qq_iload_n dJ6_compare_7cf53_1 rfl 1 rfl ?_
  refine qq_icmp_ge (tgt := 9) dJ6_compare_7cf53_2 (by decide) (fun zc1 => ?_) (fun zc1 => ?_)
  · refine qq_iload_n dJ6_compare_7cf53_9 rfl 0 rfl ?_
    refine qq_iload_n dJ6_compare_7cf53_10 rfl 1 rfl ?_
    refine qq_icmp_ne (tgt := 18) dJ6_compare_7cf53_11 (by decide) (fun zc2 => ?_) (fun zc2 => ?_)
    · refine qq_iconst (v := 1) dJ6_compare_7cf53_18 (by decide) ?_
      refine qq_iret dJ6_compare_7cf53_19 rfl rfl ⟨?_, rfl⟩
      rw [f_J6_compare_7cf53, if_pos zc1, if_neg zc2]
    · refine qq_iconst (v := 0) dJ6_compare_7cf53_14 (by decide) ?_
      refine qq_goto (tgt := 19) dJ6_compare_7cf53_15 (by decide) ?_
      refine qq_iret dJ6_compare_7cf53_19 rfl rfl ⟨?_, rfl⟩
      rw [f_J6_compare_7cf53, if_pos zc1, if_pos zc2]
  · refine qq_iconst (v := (-1)) dJ6_compare_7cf53_5 (by decide) ?_
    refine qq_goto (tgt := 19) dJ6_compare_7cf53_6 (by decide) ?_
    refine qq_iret dJ6_compare_7cf53_19 rfl rfl ⟨?_, rfl⟩
    rw [f_J6_compare_7cf53, if_neg zc1]
def f_J9_abs_0f7a4 (a : Int32) : Int32 := if 0 ≤ a then a else -a
set_option maxRecDepth 4000 in
theorem mt_J9_abs_0f7a4 (hp : qq_H) (a : Int32) : qq_Mt mJ9_abs_0f7a4 [.int a] hp 0 0 (fun v hp' => v = some (.int (f_J9_abs_0f7a4 a)) ∧ hp = hp') (fun _ _ => False) := by
  refine qq_metF rfl (by decide +kernel) (Nat.le_of_ble_eq_true rfl) (Nat.le_of_ble_eq_true rfl) ?_
  show qq_Go _ hp 0 0 0 [(0, .int a)] [] _ _
  refine qq_iload_n dJ9_abs_0f7a4_0 rfl 0 rfl ?_
  refine qq_if_ge (tgt := 9) dJ9_abs_0f7a4_1 (by decide) (fun zc1 => ?_) (fun zc1 => ?_)
  · refine qq_iload_n dJ9_abs_0f7a4_9 rfl 0 rfl ?_
    refine qq_iret dJ9_abs_0f7a4_10 rfl rfl ⟨?_, rfl⟩
    rw [f_J9_abs_0f7a4, if_pos zc1]
  · refine qq_iload_n dJ9_abs_0f7a4_4 rfl 0 rfl ?_
    refine qq_ineg dJ9_abs_0f7a4_5 ?_
    refine qq_goto (tgt := 10) dJ9_abs_0f7a4_6 (by decide) ?_
    refine qq_iret dJ9_abs_0f7a4_10 rfl rfl ⟨?_, rfl⟩
    rw [f_J9_abs_0f7a4, if_neg zc1]
def f_J9_floorDiv_7cf53 (a : Int32) (b : Int32) : Int32 := if 0 ≤ (a ^^^ b) then a / b else if ((a / b) * b) = a then a / b else (a / b) - 1
set_option maxRecDepth 4000 in
theorem mt_J9_floorDiv_7cf53 (hp : qq_H) (a : Int32) (b : Int32) (hz : ¬ b = 0): qq_Mt mJ9_floorDiv_7cf53 [.int a, .int b] hp 0 0 (fun v hp' => v = some (.int (f_J9_floorDiv_7cf53 a b)) ∧ hp = hp') (fun _ _ => False) := by
  refine qq_metF rfl (by decide +kernel) (Nat.le_of_ble_eq_true rfl) (Nat.le_of_ble_eq_true rfl) ?_
  show qq_Go _ hp 0 0 0 [(0, .int a), (1, .int b)] [] _ _
  refine qq_iload_n dJ9_floorDiv_7cf53_0 rfl 0 rfl ?_
  refine qq_iload_n dJ9_floorDiv_7cf53_1 rfl 1 rfl ?_
  refine qq_idiv dJ9_floorDiv_7cf53_2 hz ?_
  refine qq_istore_n (loc' := [(0, .int a), (1, .int b), (2, .int (a / b))]) dJ9_floorDiv_7cf53_3 rfl [1, 2, 0] (Nat.le_of_ble_eq_true rfl) rfl ?_
  refine qq_iload_n dJ9_floorDiv_7cf53_4 rfl 0 rfl ?_
  refine qq_iload_n dJ9_floorDiv_7cf53_5 rfl 1 rfl ?_
  refine qq_ixor dJ9_floorDiv_7cf53_6 ?_
  refine qq_if_ge (tgt := 21) dJ9_floorDiv_7cf53_7 (by decide) (fun zc1 => ?_) (fun zc1 => ?_)
  · refine qq_iload_n dJ9_floorDiv_7cf53_21 rfl 2 rfl ?_
    refine qq_iret dJ9_floorDiv_7cf53_22 rfl rfl ⟨?_, rfl⟩
    rw [f_J9_floorDiv_7cf53, if_pos zc1]
  · refine qq_iload_n dJ9_floorDiv_7cf53_10 rfl 2 rfl ?_
    refine qq_iload_n dJ9_floorDiv_7cf53_11 rfl 1 rfl ?_
    refine qq_imul dJ9_floorDiv_7cf53_12 ?_
    refine qq_iload_n dJ9_floorDiv_7cf53_13 rfl 0 rfl ?_
    refine qq_icmp_eq (tgt := 21) dJ9_floorDiv_7cf53_14 (by decide) (fun zc2 => ?_) (fun zc2 => ?_)
    · refine qq_iload_n dJ9_floorDiv_7cf53_21 rfl 2 rfl ?_
      refine qq_iret dJ9_floorDiv_7cf53_22 rfl rfl ⟨?_, rfl⟩
      rw [f_J9_floorDiv_7cf53, if_neg zc1, if_pos zc2]
    · refine qq_iload_n dJ9_floorDiv_7cf53_17 rfl 2 rfl ?_
      refine qq_iconst (v := 1) dJ9_floorDiv_7cf53_18 (by decide) ?_
      refine qq_isub dJ9_floorDiv_7cf53_19 ?_
      refine qq_iret dJ9_floorDiv_7cf53_20 rfl rfl ⟨?_, rfl⟩
      rw [f_J9_floorDiv_7cf53, if_neg zc1, if_neg zc2]
