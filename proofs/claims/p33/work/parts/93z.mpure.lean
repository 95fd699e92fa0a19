def f_X7_isIn (v9 : Int32) (lo : Int32) (up : Int32) : Int32 := if v9 < lo then 0 else if up < v9 then 0 else 1
theorem bz_X7_isIn (v9 : Int32) (lo : Int32) (up : Int32) : f_X7_isIn v9 lo up = 0 ∨ f_X7_isIn v9 lo up = 1 := by
  unfold f_X7_isIn
  exact (qq_i01 (Or.inl rfl) (qq_i01 (Or.inl rfl) (Or.inr rfl)))
set_option maxRecDepth 4000 in
theorem mt_X7_isIn (hp : qq_H) (v9 : Int32) (lo : Int32) (up : Int32) : qq_Mt mX7_isIn [.int v9, .int lo, .int up] hp 0 0 (fun v hp' => v = some (.int (f_X7_isIn v9 lo up)) ∧ hp = hp') (fun _ _ => False) := by
  refine qq_met pn_X7 (Nat.le_of_ble_eq_true rfl) (Nat.le_of_ble_eq_true rfl) kc_X7_isIn ?_
  show qq_Go _ hp 0 0 0 [(0, .int v9), (1, .int lo), (2, .int up)] [] _ _
  refine qq_iload_n dX7_isIn_0 rfl 0 rfl ?_
  refine qq_iload_n dX7_isIn_1 rfl 1 rfl ?_
  refine qq_icmp_lt (tgt := 14) dX7_isIn_2 (by decide) (fun zc1 => ?_) (fun zc1 => ?_)
  · refine qq_iconst (v := 0) dX7_isIn_14 (by decide) ?_
    refine qq_iret dX7_isIn_15 rfl rfl ⟨?_, rfl⟩
    rw [f_X7_isIn, if_pos zc1]
  · refine qq_iload_n dX7_isIn_5 rfl 0 rfl ?_
    refine qq_iload_n dX7_isIn_6 rfl 2 rfl ?_
    refine qq_icmp_gt (tgt := 14) dX7_isIn_7 (by decide) (fun zc2 => ?_) (fun zc2 => ?_)
    · refine qq_iconst (v := 0) dX7_isIn_14 (by decide) ?_
      refine qq_iret dX7_isIn_15 rfl rfl ⟨?_, rfl⟩
      rw [f_X7_isIn, if_neg zc1, if_pos zc2]
    · refine qq_iconst (v := 1) dX7_isIn_10 (by decide) ?_
      refine qq_goto (tgt := 15) dX7_isIn_11 (by decide) ?_
      refine qq_iret dX7_isIn_15 rfl rfl ⟨?_, rfl⟩
      rw [f_X7_isIn, if_neg zc1, if_neg zc2]
def f_X7_isNoCell (cell : Int32) : Int32 := if (f_X7_isIn cell 0 7) = 0 then 1 else 0
theorem bz_X7_isNoCell (cell : Int32) : f_X7_isNoCell cell = 0 ∨ f_X7_isNoCell cell = 1 := by
  unfold f_X7_isNoCell
  exact (qq_i01 (Or.inr rfl) (Or.inl rfl))
set_option maxRecDepth 4000 in
theorem mt_X7_isNoCell (hp : qq_H) (cell : Int32) : qq_Mt mX7_isNoCell [.int cell] hp 0 0 (fun v hp' => v = some (.int (f_X7_isNoCell cell)) ∧ hp = hp') (fun _ _ => False) := by
  refine qq_met pn_X7 (Nat.le_of_ble_eq_true rfl) (Nat.le_of_ble_eq_true rfl) kc_X7_isNoCell ?_
  show qq_Go _ hp 0 0 0 [(0, .int cell)] [] _ _
  refine qq_iload_n dX7_isNoCell_0 rfl 0 rfl ?_
  refine qq_iconst (v := 0) dX7_isNoCell_1 (by decide) ?_
  refine qq_bipush (v := 7) dX7_isNoCell_2 (by decide) ?_
  refine qq_callS (bc := 0) (bs := 0) (mc := 0) (ms := 0) (as := [.int cell, .int 0, .int 7]) (rest := []) dX7_isNoCell_4 (mt_X7_isIn hp cell 0 7) rfl kl_X7_113 ks_X7_isIn ki_X7 kc_X7_isIn kd_X7_isIn rfl (by decide) (by decide) (Nat.le_of_ble_eq_true rfl) (fun v hp' hv _ _ => ?_) (fun E hp' h _ _ => h.elim)
  obtain ⟨rfl, rfl⟩ := hv
  show qq_Go _ hp 0 0 7 [(0, .int cell)] [.int (f_X7_isIn cell 0 7)] _ _
  refine qq_if_ne (tgt := 14) dX7_isNoCell_7 (by decide) (fun zc1 => ?_) (fun zc1 => ?_)
  · refine qq_iconst (v := 0) dX7_isNoCell_14 (by decide) ?_
    refine qq_iret dX7_isNoCell_15 rfl rfl ⟨?_, rfl⟩
    rw [f_X7_isNoCell, if_neg zc1]
  · refine qq_iconst (v := 1) dX7_isNoCell_10 (by decide) ?_
    refine qq_goto (tgt := 15) dX7_isNoCell_11 (by decide) ?_
    refine qq_iret dX7_isNoCell_15 rfl rfl ⟨?_, rfl⟩
    rw [f_X7_isNoCell, if_pos zc1]
