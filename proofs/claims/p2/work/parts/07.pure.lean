def f_X2_kindOf (n : Int32) : Int32 := n >>> ((12 : Int32) &&& 31)
set_option maxRecDepth 4000 in
theorem mt_X2_kindOf (hp : qq_H) (n : Int32) : qq_Mt mX2_kindOf [.int n] hp 0 0 (fun v hp' => v = some (.int (f_X2_kindOf n)) ∧ hp = hp') (fun _ _ => False) := by
  refine qq_met (by decide +kernel) (Nat.le_of_ble_eq_true rfl) (Nat.le_of_ble_eq_true rfl) kc_X2_kindOf ?_
  show qq_Go _ hp 0 0 0 [(0, .int n)] [] _ _
  refine qq_iload_n dX2_kindOf_0 rfl 0 rfl ?_
  refine qq_bipush (v := 12) dX2_kindOf_1 (by decide) ?_
  refine qq_ishr dX2_kindOf_3 ?_
  refine qq_iret dX2_kindOf_4 rfl rfl ⟨?_, rfl⟩
  rfl
def f_X2_qOf (n : Int32) : Int32 := (n &&& 2047) - 1024
set_option maxRecDepth 4000 in
theorem mt_X2_qOf (hp : qq_H) (n : Int32) : qq_Mt mX2_qOf [.int n] hp 0 0 (fun v hp' => v = some (.int (f_X2_qOf n)) ∧ hp = hp') (fun _ _ => False) := by
  refine qq_met (by decide +kernel) (Nat.le_of_ble_eq_true rfl) (Nat.le_of_ble_eq_true rfl) kc_X2_qOf ?_
  show qq_Go _ hp 0 0 0 [(0, .int n)] [] _ _
  refine qq_iload_n dX2_qOf_0 rfl 0 rfl ?_
  refine qq_sipush (v := 2047) dX2_qOf_1 (by decide) ?_
  refine qq_iand dX2_qOf_4 ?_
  refine qq_sipush (v := 1024) dX2_qOf_5 (by decide) ?_
  refine qq_isub dX2_qOf_8 ?_
  refine qq_iret dX2_qOf_9 rfl rfl ⟨?_, rfl⟩
  rfl
def f_X2_isUnder (n : Int32) : Int32 := if (n &&& 2048) = 0 then 0 else 1
set_option maxRecDepth 4000 in
theorem mt_X2_isUnder (hp : qq_H) (n : Int32) : qq_Mt mX2_isUnder [.int n] hp 0 0 (fun v hp' => v = some (.int (f_X2_isUnder n)) ∧ hp = hp') (fun _ _ => False) := by
  refine qq_met (by decide +kernel) (Nat.le_of_ble_eq_true rfl) (Nat.le_of_ble_eq_true rfl) kc_X2_isUnder ?_
  show qq_Go _ hp 0 0 0 [(0, .int n)] [] _ _
  refine qq_iload_n dX2_isUnder_0 rfl 0 rfl ?_
  refine qq_sipush (v := 2048) dX2_isUnder_1 (by decide) ?_
  refine qq_iand dX2_isUnder_4 ?_
  refine qq_if_eq (tgt := 12) dX2_isUnder_5 (by decide) (fun c1 => ?_) (fun c1 => ?_)
  · refine qq_iconst (v := 0) dX2_isUnder_12 (by decide) ?_
    refine qq_iret dX2_isUnder_13 rfl rfl ⟨?_, rfl⟩
    rw [f_X2_isUnder, if_pos c1]
  · refine qq_iconst (v := 1) dX2_isUnder_8 (by decide) ?_
    refine qq_goto (tgt := 13) dX2_isUnder_9 (by decide) ?_
    refine qq_iret dX2_isUnder_13 rfl rfl ⟨?_, rfl⟩
    rw [f_X2_isUnder, if_neg c1]
def f_X2_makeSigned (kd : Int32) (q : Int32) (u : Int32) : Int32 := if u = 0 then ((kd <<< ((12 : Int32) &&& 31)) ||| 0) ||| (q + 1024) else ((kd <<< ((12 : Int32) &&& 31)) ||| 2048) ||| (q + 1024)
set_option maxRecDepth 4000 in
theorem mt_X2_makeSigned (hp : qq_H) (kd : Int32) (q : Int32) (u : Int32) : qq_Mt mX2_makeSigned [.int kd, .int q, .int u] hp 0 0 (fun v hp' => v = some (.int (f_X2_makeSigned kd q u)) ∧ hp = hp') (fun _ _ => False) := by
  refine qq_met (by decide +kernel) (Nat.le_of_ble_eq_true rfl) (Nat.le_of_ble_eq_true rfl) kc_X2_makeSigned ?_
  show qq_Go _ hp 0 0 0 [(0, .int kd), (1, .int q), (2, .int u)] [] _ _
  refine qq_iload_n dX2_makeSigned_0 rfl 0 rfl ?_
  refine qq_bipush (v := 12) dX2_makeSigned_1 (by decide) ?_
  refine qq_ishl dX2_makeSigned_3 ?_
  refine qq_iload_n dX2_makeSigned_4 rfl 2 rfl ?_
  refine qq_if_eq (tgt := 14) dX2_makeSigned_5 (by decide) (fun c1 => ?_) (fun c1 => ?_)
  · refine qq_iconst (v := 0) dX2_makeSigned_14 (by decide) ?_
    refine qq_ior dX2_makeSigned_15 ?_
    refine qq_iload_n dX2_makeSigned_16 rfl 1 rfl ?_
    refine qq_sipush (v := 1024) dX2_makeSigned_17 (by decide) ?_
    refine qq_iadd dX2_makeSigned_20 ?_
    refine qq_ior dX2_makeSigned_21 ?_
    refine qq_iret dX2_makeSigned_22 rfl rfl ⟨?_, rfl⟩
    rw [f_X2_makeSigned, if_pos c1]
  · refine qq_sipush (v := 2048) dX2_makeSigned_8 (by decide) ?_
    refine qq_goto (tgt := 15) dX2_makeSigned_11 (by decide) ?_
    refine qq_ior dX2_makeSigned_15 ?_
    refine qq_iload_n dX2_makeSigned_16 rfl 1 rfl ?_
    refine qq_sipush (v := 1024) dX2_makeSigned_17 (by decide) ?_
    refine qq_iadd dX2_makeSigned_20 ?_
    refine qq_ior dX2_makeSigned_21 ?_
    refine qq_iret dX2_makeSigned_22 rfl rfl ⟨?_, rfl⟩
    rw [f_X2_makeSigned, if_neg c1]
def f_X2_make (kd : Int32) (q : Int32) : Int32 := if 0 ≤ q then f_X2_makeSigned kd q 0 else if kd = 2 then f_X2_makeSigned kd q 0 else f_X2_makeSigned kd q 1
set_option maxRecDepth 4000 in
theorem mt_X2_make (hp : qq_H) (kd : Int32) (q : Int32) : qq_Mt mX2_make [.int kd, .int q] hp 0 0 (fun v hp' => v = some (.int (f_X2_make kd q)) ∧ hp = hp') (fun _ _ => False) := by
  refine qq_met (by decide +kernel) (Nat.le_of_ble_eq_true rfl) (Nat.le_of_ble_eq_true rfl) kc_X2_make ?_
  show qq_Go _ hp 0 0 0 [(0, .int kd), (1, .int q)] [] _ _
  refine qq_iload_n dX2_make_0 rfl 0 rfl ?_
  refine qq_iload_n dX2_make_1 rfl 1 rfl ?_
  refine qq_iload_n dX2_make_2 rfl 1 rfl ?_
  refine qq_if_ge (tgt := 15) dX2_make_3 (by decide) (fun c1 => ?_) (fun c1 => ?_)
  · refine qq_iconst (v := 0) dX2_make_15 (by decide) ?_
    refine qq_callS (bc := 0) (bs := 0) (mc := 0) (ms := 0) (as := [.int kd, .int q, .int 0]) (rest := []) dX2_make_16 (mt_X2_makeSigned hp kd q 0) rfl kl_X2_9 ks_X2_makeSigned ki_X2 kc_X2_makeSigned kd_X2_makeSigned rfl (by decide) (by decide) (Nat.le_of_ble_eq_true rfl) (fun v hp' hv _ _ => ?_) (fun E hp' h _ _ => h.elim)
    obtain ⟨rfl, rfl⟩ := hv
    show qq_Go _ hp 0 0 19 [(0, .int kd), (1, .int q)] [.int (f_X2_makeSigned kd q 0)] _ _
    refine qq_iret dX2_make_19 rfl rfl ⟨?_, rfl⟩
    rw [f_X2_make, if_pos c1]
  · refine qq_iload_n dX2_make_6 rfl 0 rfl ?_
    refine qq_iconst (v := 2) dX2_make_7 (by decide) ?_
    refine qq_icmp_eq (tgt := 15) dX2_make_8 (by decide) (fun c2 => ?_) (fun c2 => ?_)
    · refine qq_iconst (v := 0) dX2_make_15 (by decide) ?_
      refine qq_callS (bc := 0) (bs := 0) (mc := 0) (ms := 0) (as := [.int kd, .int q, .int 0]) (rest := []) dX2_make_16 (mt_X2_makeSigned hp kd q 0) rfl kl_X2_9 ks_X2_makeSigned ki_X2 kc_X2_makeSigned kd_X2_makeSigned rfl (by decide) (by decide) (Nat.le_of_ble_eq_true rfl) (fun v hp' hv _ _ => ?_) (fun E hp' h _ _ => h.elim)
      obtain ⟨rfl, rfl⟩ := hv
      show qq_Go _ hp 0 0 19 [(0, .int kd), (1, .int q)] [.int (f_X2_makeSigned kd q 0)] _ _
      refine qq_iret dX2_make_19 rfl rfl ⟨?_, rfl⟩
      rw [f_X2_make, if_neg c1, if_pos c2]
    · refine qq_iconst (v := 1) dX2_make_11 (by decide) ?_
      refine qq_goto (tgt := 16) dX2_make_12 (by decide) ?_
      refine qq_callS (bc := 0) (bs := 0) (mc := 0) (ms := 0) (as := [.int kd, .int q, .int 1]) (rest := []) dX2_make_16 (mt_X2_makeSigned hp kd q 1) rfl kl_X2_9 ks_X2_makeSigned ki_X2 kc_X2_makeSigned kd_X2_makeSigned rfl (by decide) (by decide) (Nat.le_of_ble_eq_true rfl) (fun v hp' hv _ _ => ?_) (fun E hp' h _ _ => h.elim)
      obtain ⟨rfl, rfl⟩ := hv
      show qq_Go _ hp 0 0 19 [(0, .int kd), (1, .int q)] [.int (f_X2_makeSigned kd q 1)] _ _
      refine qq_iret dX2_make_19 rfl rfl ⟨?_, rfl⟩
      rw [f_X2_make, if_neg c1, if_neg c2]
def f_X2_quarters (q : Int32) : Int32 := f_X2_make 0 q
set_option maxRecDepth 4000 in
theorem mt_X2_quarters (hp : qq_H) (q : Int32) : qq_Mt mX2_quarters [.int q] hp 0 0 (fun v hp' => v = some (.int (f_X2_quarters q)) ∧ hp = hp') (fun _ _ => False) := by
  refine qq_met (by decide +kernel) (Nat.le_of_ble_eq_true rfl) (Nat.le_of_ble_eq_true rfl) kc_X2_quarters ?_
  show qq_Go _ hp 0 0 0 [(0, .int q)] [] _ _
  refine qq_iconst (v := 0) dX2_quarters_0 (by decide) ?_
  refine qq_iload_n dX2_quarters_1 rfl 0 rfl ?_
  refine qq_callS (bc := 0) (bs := 0) (mc := 0) (ms := 0) (as := [.int 0, .int q]) (rest := []) dX2_quarters_2 (mt_X2_make hp 0 q) rfl kl_X2_13 ks_X2_make ki_X2 kc_X2_make kd_X2_make rfl (by decide) (by decide) (Nat.le_of_ble_eq_true rfl) (fun v hp' hv _ _ => ?_) (fun E hp' h _ _ => h.elim)
  obtain ⟨rfl, rfl⟩ := hv
  show qq_Go _ hp 0 0 5 [(0, .int q)] [.int (f_X2_make 0 q)] _ _
  refine qq_iret dX2_quarters_5 rfl rfl ⟨?_, rfl⟩
  rfl
def f_X2_nought (u : Int32) : Int32 := f_X2_makeSigned 0 0 u
set_option maxRecDepth 4000 in
theorem mt_X2_nought (hp : qq_H) (u : Int32) : qq_Mt mX2_nought [.int u] hp 0 0 (fun v hp' => v = some (.int (f_X2_nought u)) ∧ hp = hp') (fun _ _ => False) := by
  refine qq_met (by decide +kernel) (Nat.le_of_ble_eq_true rfl) (Nat.le_of_ble_eq_true rfl) kc_X2_nought ?_
  show qq_Go _ hp 0 0 0 [(0, .int u)] [] _ _
  refine qq_iconst (v := 0) dX2_nought_0 (by decide) ?_
  refine qq_iconst (v := 0) dX2_nought_1 (by decide) ?_
  refine qq_iload_n dX2_nought_2 rfl 0 rfl ?_
  refine qq_callS (bc := 0) (bs := 0) (mc := 0) (ms := 0) (as := [.int 0, .int 0, .int u]) (rest := []) dX2_nought_3 (mt_X2_makeSigned hp 0 0 u) rfl kl_X2_9 ks_X2_makeSigned ki_X2 kc_X2_makeSigned kd_X2_makeSigned rfl (by decide) (by decide) (Nat.le_of_ble_eq_true rfl) (fun v hp' hv _ _ => ?_) (fun E hp' h _ _ => h.elim)
  obtain ⟨rfl, rfl⟩ := hv
  show qq_Go _ hp 0 0 6 [(0, .int u)] [.int (f_X2_makeSigned 0 0 u)] _ _
  refine qq_iret dX2_nought_6 rfl rfl ⟨?_, rfl⟩
  rfl
def f_X2_withoutEnd (u : Int32) : Int32 := if u = 0 then f_X2_makeSigned 1 1000 u else f_X2_makeSigned 1 (-1000) u
set_option maxRecDepth 4000 in
theorem mt_X2_withoutEnd (hp : qq_H) (u : Int32) : qq_Mt mX2_withoutEnd [.int u] hp 0 0 (fun v hp' => v = some (.int (f_X2_withoutEnd u)) ∧ hp = hp') (fun _ _ => False) := by
  refine qq_met (by decide +kernel) (Nat.le_of_ble_eq_true rfl) (Nat.le_of_ble_eq_true rfl) kc_X2_withoutEnd ?_
  show qq_Go _ hp 0 0 0 [(0, .int u)] [] _ _
  refine qq_iconst (v := 1) dX2_withoutEnd_0 (by decide) ?_
  refine qq_iload_n dX2_withoutEnd_1 rfl 0 rfl ?_
  refine qq_if_eq (tgt := 11) dX2_withoutEnd_2 (by decide) (fun c1 => ?_) (fun c1 => ?_)
  · refine qq_sipush (v := 1000) dX2_withoutEnd_11 (by decide) ?_
    refine qq_iload_n dX2_withoutEnd_14 rfl 0 rfl ?_
    refine qq_callS (bc := 0) (bs := 0) (mc := 0) (ms := 0) (as := [.int 1, .int 1000, .int u]) (rest := []) dX2_withoutEnd_15 (mt_X2_makeSigned hp 1 1000 u) rfl kl_X2_9 ks_X2_makeSigned ki_X2 kc_X2_makeSigned kd_X2_makeSigned rfl (by decide) (by decide) (Nat.le_of_ble_eq_true rfl) (fun v hp' hv _ _ => ?_) (fun E hp' h _ _ => h.elim)
    obtain ⟨rfl, rfl⟩ := hv
    show qq_Go _ hp 0 0 18 [(0, .int u)] [.int (f_X2_makeSigned 1 1000 u)] _ _
    refine qq_iret dX2_withoutEnd_18 rfl rfl ⟨?_, rfl⟩
    rw [f_X2_withoutEnd, if_pos c1]
  · refine qq_sipush (v := (-1000)) dX2_withoutEnd_5 (by decide) ?_
    refine qq_goto (tgt := 14) dX2_withoutEnd_8 (by decide) ?_
    refine qq_iload_n dX2_withoutEnd_14 rfl 0 rfl ?_
    refine qq_callS (bc := 0) (bs := 0) (mc := 0) (ms := 0) (as := [.int 1, .int (-1000), .int u]) (rest := []) dX2_withoutEnd_15 (mt_X2_makeSigned hp 1 (-1000) u) rfl kl_X2_9 ks_X2_makeSigned ki_X2 kc_X2_makeSigned kd_X2_makeSigned rfl (by decide) (by decide) (Nat.le_of_ble_eq_true rfl) (fun v hp' hv _ _ => ?_) (fun E hp' h _ _ => h.elim)
    obtain ⟨rfl, rfl⟩ := hv
    show qq_Go _ hp 0 0 18 [(0, .int u)] [.int (f_X2_makeSigned 1 (-1000) u)] _ _
    refine qq_iret dX2_withoutEnd_18 rfl rfl ⟨?_, rfl⟩
    rw [f_X2_withoutEnd, if_neg c1]
def f_X2_isNought (n : Int32) : Int32 := if (f_X2_kindOf n) = 0 then if (f_X2_qOf n) = 0 then 1 else 0 else 0
set_option maxRecDepth 4000 in
theorem mt_X2_isNought (hp : qq_H) (n : Int32) : qq_Mt mX2_isNought [.int n] hp 0 0 (fun v hp' => v = some (.int (f_X2_isNought n)) ∧ hp = hp') (fun _ _ => False) := by
  refine qq_met (by decide +kernel) (Nat.le_of_ble_eq_true rfl) (Nat.le_of_ble_eq_true rfl) kc_X2_isNought ?_
  show qq_Go _ hp 0 0 0 [(0, .int n)] [] _ _
  refine qq_iload_n dX2_isNought_0 rfl 0 rfl ?_
  refine qq_callS (bc := 0) (bs := 0) (mc := 0) (ms := 0) (as := [.int n]) (rest := []) dX2_isNought_1 (mt_X2_kindOf hp n) rfl kl_X2_17 ks_X2_kindOf ki_X2 kc_X2_kindOf kd_X2_kindOf rfl (by decide) (by decide) (Nat.le_of_ble_eq_true rfl) (fun v hp' hv _ _ => ?_) (fun E hp' h _ _ => h.elim)
  obtain ⟨rfl, rfl⟩ := hv
  show qq_Go _ hp 0 0 4 [(0, .int n)] [.int (f_X2_kindOf n)] _ _
  refine qq_if_ne (tgt := 18) dX2_isNought_4 (by decide) (fun c1 => ?_) (fun c1 => ?_)
  · refine qq_iconst (v := 0) dX2_isNought_18 (by decide) ?_
    refine qq_iret dX2_isNought_19 rfl rfl ⟨?_, rfl⟩
    rw [f_X2_isNought, if_neg c1]
  · refine qq_iload_n dX2_isNought_7 rfl 0 rfl ?_
    refine qq_callS (bc := 0) (bs := 0) (mc := 0) (ms := 0) (as := [.int n]) (rest := []) dX2_isNought_8 (mt_X2_qOf hp n) rfl kl_X2_21 ks_X2_qOf ki_X2 kc_X2_qOf kd_X2_qOf rfl (by decide) (by decide) (Nat.le_of_ble_eq_true rfl) (fun v hp' hv _ _ => ?_) (fun E hp' h _ _ => h.elim)
    obtain ⟨rfl, rfl⟩ := hv
    show qq_Go _ hp 0 0 11 [(0, .int n)] [.int (f_X2_qOf n)] _ _
    refine qq_if_ne (tgt := 18) dX2_isNought_11 (by decide) (fun c2 => ?_) (fun c2 => ?_)
    · refine qq_iconst (v := 0) dX2_isNought_18 (by decide) ?_
      refine qq_iret dX2_isNought_19 rfl rfl ⟨?_, rfl⟩
      rw [f_X2_isNought, if_pos c1, if_neg c2]
    · refine qq_iconst (v := 1) dX2_isNought_14 (by decide) ?_
      refine qq_goto (tgt := 19) dX2_isNought_15 (by decide) ?_
      refine qq_iret dX2_isNought_19 rfl rfl ⟨?_, rfl⟩
      rw [f_X2_isNought, if_pos c1, if_pos c2]
def f_X2_canBeQuarter (q : Int32) : Int32 := if q < (-160) then 0 else if 160 < q then 0 else 1
set_option maxRecDepth 4000 in
theorem mt_X2_canBeQuarter (hp : qq_H) (q : Int32) : qq_Mt mX2_canBeQuarter [.int q] hp 0 0 (fun v hp' => v = some (.int (f_X2_canBeQuarter q)) ∧ hp = hp') (fun _ _ => False) := by
  refine qq_met (by decide +kernel) (Nat.le_of_ble_eq_true rfl) (Nat.le_of_ble_eq_true rfl) kc_X2_canBeQuarter ?_
  show qq_Go _ hp 0 0 0 [(0, .int q)] [] _ _
  refine qq_iload_n dX2_canBeQuarter_0 rfl 0 rfl ?_
  refine qq_sipush (v := (-160)) dX2_canBeQuarter_1 (by decide) ?_
  refine qq_icmp_lt (tgt := 18) dX2_canBeQuarter_4 (by decide) (fun c1 => ?_) (fun c1 => ?_)
  · refine qq_iconst (v := 0) dX2_canBeQuarter_18 (by decide) ?_
    refine qq_iret dX2_canBeQuarter_19 rfl rfl ⟨?_, rfl⟩
    rw [f_X2_canBeQuarter, if_pos c1]
  · refine qq_iload_n dX2_canBeQuarter_7 rfl 0 rfl ?_
    refine qq_sipush (v := 160) dX2_canBeQuarter_8 (by decide) ?_
    refine qq_icmp_gt (tgt := 18) dX2_canBeQuarter_11 (by decide) (fun c2 => ?_) (fun c2 => ?_)
    · refine qq_iconst (v := 0) dX2_canBeQuarter_18 (by decide) ?_
      refine qq_iret dX2_canBeQuarter_19 rfl rfl ⟨?_, rfl⟩
      rw [f_X2_canBeQuarter, if_neg c1, if_pos c2]
    · refine qq_iconst (v := 1) dX2_canBeQuarter_14 (by decide) ?_
      refine qq_goto (tgt := 19) dX2_canBeQuarter_15 (by decide) ?_
      refine qq_iret dX2_canBeQuarter_19 rfl rfl ⟨?_, rfl⟩
      rw [f_X2_canBeQuarter, if_neg c1, if_neg c2]
def f_X2_turned (n : Int32) : Int32 := if (f_X2_isUnder n) = 0 then f_X2_makeSigned (f_X2_kindOf n) (-(f_X2_qOf n)) 1 else f_X2_makeSigned (f_X2_kindOf n) (-(f_X2_qOf n)) 0
set_option maxRecDepth 4000 in
theorem mt_X2_turned (hp : qq_H) (n : Int32) : qq_Mt mX2_turned [.int n] hp 0 0 (fun v hp' => v = some (.int (f_X2_turned n)) ∧ hp = hp') (fun _ _ => False) := by
  refine qq_met (by decide +kernel) (Nat.le_of_ble_eq_true rfl) (Nat.le_of_ble_eq_true rfl) kc_X2_turned ?_
  show qq_Go _ hp 0 0 0 [(0, .int n)] [] _ _
  refine qq_iload_n dX2_turned_0 rfl 0 rfl ?_
  refine qq_callS (bc := 0) (bs := 0) (mc := 0) (ms := 0) (as := [.int n]) (rest := []) dX2_turned_1 (mt_X2_kindOf hp n) rfl kl_X2_17 ks_X2_kindOf ki_X2 kc_X2_kindOf kd_X2_kindOf rfl (by decide) (by decide) (Nat.le_of_ble_eq_true rfl) (fun v hp' hv _ _ => ?_) (fun E hp' h _ _ => h.elim)
  obtain ⟨rfl, rfl⟩ := hv
  show qq_Go _ hp 0 0 4 [(0, .int n)] [.int (f_X2_kindOf n)] _ _
  refine qq_iload_n dX2_turned_4 rfl 0 rfl ?_
  refine qq_callS (bc := 0) (bs := 0) (mc := 0) (ms := 0) (as := [.int n]) (rest := [.int (f_X2_kindOf n)]) dX2_turned_5 (mt_X2_qOf hp n) rfl kl_X2_21 ks_X2_qOf ki_X2 kc_X2_qOf kd_X2_qOf rfl (by decide) (by decide) (Nat.le_of_ble_eq_true rfl) (fun v hp' hv _ _ => ?_) (fun E hp' h _ _ => h.elim)
  obtain ⟨rfl, rfl⟩ := hv
  show qq_Go _ hp 0 0 8 [(0, .int n)] [.int (f_X2_qOf n), .int (f_X2_kindOf n)] _ _
  refine qq_ineg dX2_turned_8 ?_
  refine qq_iload_n dX2_turned_9 rfl 0 rfl ?_
  refine qq_callS (bc := 0) (bs := 0) (mc := 0) (ms := 0) (as := [.int n]) (rest := [.int (-(f_X2_qOf n)), .int (f_X2_kindOf n)]) dX2_turned_10 (mt_X2_isUnder hp n) rfl kl_X2_24 ks_X2_isUnder ki_X2 kc_X2_isUnder kd_X2_isUnder rfl (by decide) (by decide) (Nat.le_of_ble_eq_true rfl) (fun v hp' hv _ _ => ?_) (fun E hp' h _ _ => h.elim)
  obtain ⟨rfl, rfl⟩ := hv
  show qq_Go _ hp 0 0 13 [(0, .int n)] [.int (f_X2_isUnder n), .int (-(f_X2_qOf n)), .int (f_X2_kindOf n)] _ _
  refine qq_if_ne (tgt := 20) dX2_turned_13 (by decide) (fun c1 => ?_) (fun c1 => ?_)
  · refine qq_iconst (v := 0) dX2_turned_20 (by decide) ?_
    refine qq_callS (bc := 0) (bs := 0) (mc := 0) (ms := 0) (as := [.int (f_X2_kindOf n), .int (-(f_X2_qOf n)), .int 0]) (rest := []) dX2_turned_21 (mt_X2_makeSigned hp (f_X2_kindOf n) (-(f_X2_qOf n)) 0) rfl kl_X2_9 ks_X2_makeSigned ki_X2 kc_X2_makeSigned kd_X2_makeSigned rfl (by decide) (by decide) (Nat.le_of_ble_eq_true rfl) (fun v hp' hv _ _ => ?_) (fun E hp' h _ _ => h.elim)
    obtain ⟨rfl, rfl⟩ := hv
    show qq_Go _ hp 0 0 24 [(0, .int n)] [.int (f_X2_makeSigned (f_X2_kindOf n) (-(f_X2_qOf n)) 0)] _ _
    refine qq_iret dX2_turned_24 rfl rfl ⟨?_, rfl⟩
    rw [f_X2_turned, if_neg c1]
  · refine qq_iconst (v := 1) dX2_turned_16 (by decide) ?_
    refine qq_goto (tgt := 21) dX2_turned_17 (by decide) ?_
    refine qq_callS (bc := 0) (bs := 0) (mc := 0) (ms := 0) (as := [.int (f_X2_kindOf n), .int (-(f_X2_qOf n)), .int 1]) (rest := []) dX2_turned_21 (mt_X2_makeSigned hp (f_X2_kindOf n) (-(f_X2_qOf n)) 1) rfl kl_X2_9 ks_X2_makeSigned ki_X2 kc_X2_makeSigned kd_X2_makeSigned rfl (by decide) (by decide) (Nat.le_of_ble_eq_true rfl) (fun v hp' hv _ _ => ?_) (fun E hp' h _ _ => h.elim)
    obtain ⟨rfl, rfl⟩ := hv
    show qq_Go _ hp 0 0 24 [(0, .int n)] [.int (f_X2_makeSigned (f_X2_kindOf n) (-(f_X2_qOf n)) 1)] _ _
    refine qq_iret dX2_turned_24 rfl rfl ⟨?_, rfl⟩
    rw [f_X2_turned, if_pos c1]
def f_X2_hasWhole (n : Int32) : Int32 := if (f_X2_kindOf n) = 1 then 0 else if (f_X2_kindOf n) = 5 then 0 else if (f_X2_kindOf n) = 6 then 0 else 1
set_option maxRecDepth 4000 in
theorem mt_X2_hasWhole (hp : qq_H) (n : Int32) : qq_Mt mX2_hasWhole [.int n] hp 0 0 (fun v hp' => v = some (.int (f_X2_hasWhole n)) ∧ hp = hp') (fun _ _ => False) := by
  refine qq_met (by decide +kernel) (Nat.le_of_ble_eq_true rfl) (Nat.le_of_ble_eq_true rfl) kc_X2_hasWhole ?_
  show qq_Go _ hp 0 0 0 [(0, .int n)] [] _ _
  refine qq_iload_n dX2_hasWhole_0 rfl 0 rfl ?_
  refine qq_callS (bc := 0) (bs := 0) (mc := 0) (ms := 0) (as := [.int n]) (rest := []) dX2_hasWhole_1 (mt_X2_kindOf hp n) rfl kl_X2_17 ks_X2_kindOf ki_X2 kc_X2_kindOf kd_X2_kindOf rfl (by decide) (by decide) (Nat.le_of_ble_eq_true rfl) (fun v hp' hv _ _ => ?_) (fun E hp' h _ _ => h.elim)
  obtain ⟨rfl, rfl⟩ := hv
  show qq_Go _ hp 0 0 4 [(0, .int n)] [.int (f_X2_kindOf n)] _ _
  refine qq_istore_n (loc' := [(0, .int n), (1, .int (f_X2_kindOf n))]) dX2_hasWhole_4 rfl [1, 0] (Nat.le_of_ble_eq_true rfl) rfl ?_
  refine qq_iload_n dX2_hasWhole_5 rfl 1 rfl ?_
  refine qq_iconst (v := 1) dX2_hasWhole_6 (by decide) ?_
  refine qq_icmp_eq (tgt := 25) dX2_hasWhole_7 (by decide) (fun c1 => ?_) (fun c1 => ?_)
  · refine qq_iconst (v := 0) dX2_hasWhole_25 (by decide) ?_
    refine qq_iret dX2_hasWhole_26 rfl rfl ⟨?_, rfl⟩
    rw [f_X2_hasWhole, if_pos c1]
  · refine qq_iload_n dX2_hasWhole_10 rfl 1 rfl ?_
    refine qq_iconst (v := 5) dX2_hasWhole_11 (by decide) ?_
    refine qq_icmp_eq (tgt := 25) dX2_hasWhole_12 (by decide) (fun c2 => ?_) (fun c2 => ?_)
    · refine qq_iconst (v := 0) dX2_hasWhole_25 (by decide) ?_
      refine qq_iret dX2_hasWhole_26 rfl rfl ⟨?_, rfl⟩
      rw [f_X2_hasWhole, if_neg c1, if_pos c2]
    · refine qq_iload_n dX2_hasWhole_15 rfl 1 rfl ?_
      refine qq_bipush (v := 6) dX2_hasWhole_16 (by decide) ?_
      refine qq_icmp_eq (tgt := 25) dX2_hasWhole_18 (by decide) (fun c3 => ?_) (fun c3 => ?_)
      · refine qq_iconst (v := 0) dX2_hasWhole_25 (by decide) ?_
        refine qq_iret dX2_hasWhole_26 rfl rfl ⟨?_, rfl⟩
        rw [f_X2_hasWhole, if_neg c1, if_neg c2, if_pos c3]
      · refine qq_iconst (v := 1) dX2_hasWhole_21 (by decide) ?_
        refine qq_goto (tgt := 26) dX2_hasWhole_22 (by decide) ?_
        refine qq_iret dX2_hasWhole_26 rfl rfl ⟨?_, rfl⟩
        rw [f_X2_hasWhole, if_neg c1, if_neg c2, if_neg c3]
def f_X2_hasHeight (n : Int32) : Int32 := if (f_X2_hasWhole n) = 0 then 0 else if (f_X2_isNought n) = 0 then 1 else 0
set_option maxRecDepth 4000 in
theorem mt_X2_hasHeight (hp : qq_H) (n : Int32) : qq_Mt mX2_hasHeight [.int n] hp 0 0 (fun v hp' => v = some (.int (f_X2_hasHeight n)) ∧ hp = hp') (fun _ _ => False) := by
  refine qq_met (by decide +kernel) (Nat.le_of_ble_eq_true rfl) (Nat.le_of_ble_eq_true rfl) kc_X2_hasHeight ?_
  show qq_Go _ hp 0 0 0 [(0, .int n)] [] _ _
  refine qq_iload_n dX2_hasHeight_0 rfl 0 rfl ?_
  refine qq_callS (bc := 0) (bs := 0) (mc := 0) (ms := 0) (as := [.int n]) (rest := []) dX2_hasHeight_1 (mt_X2_hasWhole hp n) rfl kl_X2_28 ks_X2_hasWhole ki_X2 kc_X2_hasWhole kd_X2_hasWhole rfl (by decide) (by decide) (Nat.le_of_ble_eq_true rfl) (fun v hp' hv _ _ => ?_) (fun E hp' h _ _ => h.elim)
  obtain ⟨rfl, rfl⟩ := hv
  show qq_Go _ hp 0 0 4 [(0, .int n)] [.int (f_X2_hasWhole n)] _ _
  refine qq_if_eq (tgt := 18) dX2_hasHeight_4 (by decide) (fun c1 => ?_) (fun c1 => ?_)
  · refine qq_iconst (v := 0) dX2_hasHeight_18 (by decide) ?_
    refine qq_iret dX2_hasHeight_19 rfl rfl ⟨?_, rfl⟩
    rw [f_X2_hasHeight, if_pos c1]
  · refine qq_iload_n dX2_hasHeight_7 rfl 0 rfl ?_
    refine qq_callS (bc := 0) (bs := 0) (mc := 0) (ms := 0) (as := [.int n]) (rest := []) dX2_hasHeight_8 (mt_X2_isNought hp n) rfl kl_X2_31 ks_X2_isNought ki_X2 kc_X2_isNought kd_X2_isNought rfl (by decide) (by decide) (Nat.le_of_ble_eq_true rfl) (fun v hp' hv _ _ => ?_) (fun E hp' h _ _ => h.elim)
    obtain ⟨rfl, rfl⟩ := hv
    show qq_Go _ hp 0 0 11 [(0, .int n)] [.int (f_X2_isNought n)] _ _
    refine qq_if_ne (tgt := 18) dX2_hasHeight_11 (by decide) (fun c2 => ?_) (fun c2 => ?_)
    · refine qq_iconst (v := 0) dX2_hasHeight_18 (by decide) ?_
      refine qq_iret dX2_hasHeight_19 rfl rfl ⟨?_, rfl⟩
      rw [f_X2_hasHeight, if_neg c1, if_neg c2]
    · refine qq_iconst (v := 1) dX2_hasHeight_14 (by decide) ?_
      refine qq_goto (tgt := 19) dX2_hasHeight_15 (by decide) ?_
      refine qq_iret dX2_hasHeight_19 rfl rfl ⟨?_, rfl⟩
      rw [f_X2_hasHeight, if_neg c1, if_pos c2]
def f_X2_hasToldDigits (n : Int32) : Int32 := if (f_X2_kindOf n) = 0 then 1 else if (f_X2_kindOf n) = 1 then 1 else 0
set_option maxRecDepth 4000 in
theorem mt_X2_hasToldDigits (hp : qq_H) (n : Int32) : qq_Mt mX2_hasToldDigits [.int n] hp 0 0 (fun v hp' => v = some (.int (f_X2_hasToldDigits n)) ∧ hp = hp') (fun _ _ => False) := by
  refine qq_met (by decide +kernel) (Nat.le_of_ble_eq_true rfl) (Nat.le_of_ble_eq_true rfl) kc_X2_hasToldDigits ?_
  show qq_Go _ hp 0 0 0 [(0, .int n)] [] _ _
  refine qq_iload_n dX2_hasToldDigits_0 rfl 0 rfl ?_
  refine qq_callS (bc := 0) (bs := 0) (mc := 0) (ms := 0) (as := [.int n]) (rest := []) dX2_hasToldDigits_1 (mt_X2_kindOf hp n) rfl kl_X2_17 ks_X2_kindOf ki_X2 kc_X2_kindOf kd_X2_kindOf rfl (by decide) (by decide) (Nat.le_of_ble_eq_true rfl) (fun v hp' hv _ _ => ?_) (fun E hp' h _ _ => h.elim)
  obtain ⟨rfl, rfl⟩ := hv
  show qq_Go _ hp 0 0 4 [(0, .int n)] [.int (f_X2_kindOf n)] _ _
  refine qq_if_eq (tgt := 15) dX2_hasToldDigits_4 (by decide) (fun c1 => ?_) (fun c1 => ?_)
  · refine qq_iconst (v := 1) dX2_hasToldDigits_15 (by decide) ?_
    refine qq_goto (tgt := 20) dX2_hasToldDigits_16 (by decide) ?_
    refine qq_iret dX2_hasToldDigits_20 rfl rfl ⟨?_, rfl⟩
    rw [f_X2_hasToldDigits, if_pos c1]
  · refine qq_iload_n dX2_hasToldDigits_7 rfl 0 rfl ?_
    refine qq_callS (bc := 0) (bs := 0) (mc := 0) (ms := 0) (as := [.int n]) (rest := []) dX2_hasToldDigits_8 (mt_X2_kindOf hp n) rfl kl_X2_17 ks_X2_kindOf ki_X2 kc_X2_kindOf kd_X2_kindOf rfl (by decide) (by decide) (Nat.le_of_ble_eq_true rfl) (fun v hp' hv _ _ => ?_) (fun E hp' h _ _ => h.elim)
    obtain ⟨rfl, rfl⟩ := hv
    show qq_Go _ hp 0 0 11 [(0, .int n)] [.int (f_X2_kindOf n)] _ _
    refine qq_iconst (v := 1) dX2_hasToldDigits_11 (by decide) ?_
    refine qq_icmp_ne (tgt := 19) dX2_hasToldDigits_12 (by decide) (fun c2 => ?_) (fun c2 => ?_)
    · refine qq_iconst (v := 0) dX2_hasToldDigits_19 (by decide) ?_
      refine qq_iret dX2_hasToldDigits_20 rfl rfl ⟨?_, rfl⟩
      rw [f_X2_hasToldDigits, if_neg c1, if_neg c2]
    · refine qq_iconst (v := 1) dX2_hasToldDigits_15 (by decide) ?_
      refine qq_goto (tgt := 20) dX2_hasToldDigits_16 (by decide) ?_
      refine qq_iret dX2_hasToldDigits_20 rfl rfl ⟨?_, rfl⟩
      rw [f_X2_hasToldDigits, if_neg c1, if_pos c2]
def f_X2_hasQuarterAsTrue (n : Int32) : Int32 := if (f_X2_kindOf n) = 0 then 1 else if (f_X2_kindOf n) = 5 then 1 else if (f_X2_kindOf n) = 6 then 1 else 0
set_option maxRecDepth 4000 in
theorem mt_X2_hasQuarterAsTrue (hp : qq_H) (n : Int32) : qq_Mt mX2_hasQuarterAsTrue [.int n] hp 0 0 (fun v hp' => v = some (.int (f_X2_hasQuarterAsTrue n)) ∧ hp = hp') (fun _ _ => False) := by
  refine qq_met (by decide +kernel) (Nat.le_of_ble_eq_true rfl) (Nat.le_of_ble_eq_true rfl) kc_X2_hasQuarterAsTrue ?_
  show qq_Go _ hp 0 0 0 [(0, .int n)] [] _ _
  refine qq_iload_n dX2_hasQuarterAsTrue_0 rfl 0 rfl ?_
  refine qq_callS (bc := 0) (bs := 0) (mc := 0) (ms := 0) (as := [.int n]) (rest := []) dX2_hasQuarterAsTrue_1 (mt_X2_kindOf hp n) rfl kl_X2_17 ks_X2_kindOf ki_X2 kc_X2_kindOf kd_X2_kindOf rfl (by decide) (by decide) (Nat.le_of_ble_eq_true rfl) (fun v hp' hv _ _ => ?_) (fun E hp' h _ _ => h.elim)
  obtain ⟨rfl, rfl⟩ := hv
  show qq_Go _ hp 0 0 4 [(0, .int n)] [.int (f_X2_kindOf n)] _ _
  refine qq_istore_n (loc' := [(0, .int n), (1, .int (f_X2_kindOf n))]) dX2_hasQuarterAsTrue_4 rfl [1, 0] (Nat.le_of_ble_eq_true rfl) rfl ?_
  refine qq_iload_n dX2_hasQuarterAsTrue_5 rfl 1 rfl ?_
  refine qq_if_eq (tgt := 20) dX2_hasQuarterAsTrue_6 (by decide) (fun c1 => ?_) (fun c1 => ?_)
  · refine qq_iconst (v := 1) dX2_hasQuarterAsTrue_20 (by decide) ?_
    refine qq_goto (tgt := 25) dX2_hasQuarterAsTrue_21 (by decide) ?_
    refine qq_iret dX2_hasQuarterAsTrue_25 rfl rfl ⟨?_, rfl⟩
    rw [f_X2_hasQuarterAsTrue, if_pos c1]
  · refine qq_iload_n dX2_hasQuarterAsTrue_9 rfl 1 rfl ?_
    refine qq_iconst (v := 5) dX2_hasQuarterAsTrue_10 (by decide) ?_
    refine qq_icmp_eq (tgt := 20) dX2_hasQuarterAsTrue_11 (by decide) (fun c2 => ?_) (fun c2 => ?_)
    · refine qq_iconst (v := 1) dX2_hasQuarterAsTrue_20 (by decide) ?_
      refine qq_goto (tgt := 25) dX2_hasQuarterAsTrue_21 (by decide) ?_
      refine qq_iret dX2_hasQuarterAsTrue_25 rfl rfl ⟨?_, rfl⟩
      rw [f_X2_hasQuarterAsTrue, if_neg c1, if_pos c2]
    · refine qq_iload_n dX2_hasQuarterAsTrue_14 rfl 1 rfl ?_
      refine qq_bipush (v := 6) dX2_hasQuarterAsTrue_15 (by decide) ?_
      refine qq_icmp_ne (tgt := 24) dX2_hasQuarterAsTrue_17 (by decide) (fun c3 => ?_) (fun c3 => ?_)
      · refine qq_iconst (v := 0) dX2_hasQuarterAsTrue_24 (by decide) ?_
        refine qq_iret dX2_hasQuarterAsTrue_25 rfl rfl ⟨?_, rfl⟩
        rw [f_X2_hasQuarterAsTrue, if_neg c1, if_neg c2, if_neg c3]
      · refine qq_iconst (v := 1) dX2_hasQuarterAsTrue_20 (by decide) ?_
        refine qq_goto (tgt := 25) dX2_hasQuarterAsTrue_21 (by decide) ?_
        refine qq_iret dX2_hasQuarterAsTrue_25 rfl rfl ⟨?_, rfl⟩
        rw [f_X2_hasQuarterAsTrue, if_neg c1, if_neg c2, if_pos c3]
def f_X2_areNear (a : Int32) (b : Int32) : Int32 := if (f_X2_kindOf a) = (f_X2_kindOf b) then 0 else if (f_X2_qOf a) = (f_X2_qOf b) then if (f_X2_hasQuarterAsTrue a) = 0 then 0 else if (f_X2_hasQuarterAsTrue b) = 0 then 0 else 1 else 0
set_option maxRecDepth 4000 in
theorem mt_X2_areNear (hp : qq_H) (a : Int32) (b : Int32) : qq_Mt mX2_areNear [.int a, .int b] hp 0 0 (fun v hp' => v = some (.int (f_X2_areNear a b)) ∧ hp = hp') (fun _ _ => False) := by
  refine qq_met (by decide +kernel) (Nat.le_of_ble_eq_true rfl) (Nat.le_of_ble_eq_true rfl) kc_X2_areNear ?_
  show qq_Go _ hp 0 0 0 [(0, .int a), (1, .int b)] [] _ _
  refine qq_iload_n dX2_areNear_0 rfl 0 rfl ?_
  refine qq_callS (bc := 0) (bs := 0) (mc := 0) (ms := 0) (as := [.int a]) (rest := []) dX2_areNear_1 (mt_X2_kindOf hp a) rfl kl_X2_17 ks_X2_kindOf ki_X2 kc_X2_kindOf kd_X2_kindOf rfl (by decide) (by decide) (Nat.le_of_ble_eq_true rfl) (fun v hp' hv _ _ => ?_) (fun E hp' h _ _ => h.elim)
  obtain ⟨rfl, rfl⟩ := hv
  show qq_Go _ hp 0 0 4 [(0, .int a), (1, .int b)] [.int (f_X2_kindOf a)] _ _
  refine qq_iload_n dX2_areNear_4 rfl 1 rfl ?_
  refine qq_callS (bc := 0) (bs := 0) (mc := 0) (ms := 0) (as := [.int b]) (rest := [.int (f_X2_kindOf a)]) dX2_areNear_5 (mt_X2_kindOf hp b) rfl kl_X2_17 ks_X2_kindOf ki_X2 kc_X2_kindOf kd_X2_kindOf rfl (by decide) (by decide) (Nat.le_of_ble_eq_true rfl) (fun v hp' hv _ _ => ?_) (fun E hp' h _ _ => h.elim)
  obtain ⟨rfl, rfl⟩ := hv
  show qq_Go _ hp 0 0 8 [(0, .int a), (1, .int b)] [.int (f_X2_kindOf b), .int (f_X2_kindOf a)] _ _
  refine qq_icmp_eq (tgt := 40) dX2_areNear_8 (by decide) (fun c1 => ?_) (fun c1 => ?_)
  · refine qq_iconst (v := 0) dX2_areNear_40 (by decide) ?_
    refine qq_iret dX2_areNear_41 rfl rfl ⟨?_, rfl⟩
    rw [f_X2_areNear, if_pos c1]
  · refine qq_iload_n dX2_areNear_11 rfl 0 rfl ?_
    refine qq_callS (bc := 0) (bs := 0) (mc := 0) (ms := 0) (as := [.int a]) (rest := []) dX2_areNear_12 (mt_X2_qOf hp a) rfl kl_X2_21 ks_X2_qOf ki_X2 kc_X2_qOf kd_X2_qOf rfl (by decide) (by decide) (Nat.le_of_ble_eq_true rfl) (fun v hp' hv _ _ => ?_) (fun E hp' h _ _ => h.elim)
    obtain ⟨rfl, rfl⟩ := hv
    show qq_Go _ hp 0 0 15 [(0, .int a), (1, .int b)] [.int (f_X2_qOf a)] _ _
    refine qq_iload_n dX2_areNear_15 rfl 1 rfl ?_
    refine qq_callS (bc := 0) (bs := 0) (mc := 0) (ms := 0) (as := [.int b]) (rest := [.int (f_X2_qOf a)]) dX2_areNear_16 (mt_X2_qOf hp b) rfl kl_X2_21 ks_X2_qOf ki_X2 kc_X2_qOf kd_X2_qOf rfl (by decide) (by decide) (Nat.le_of_ble_eq_true rfl) (fun v hp' hv _ _ => ?_) (fun E hp' h _ _ => h.elim)
    obtain ⟨rfl, rfl⟩ := hv
    show qq_Go _ hp 0 0 19 [(0, .int a), (1, .int b)] [.int (f_X2_qOf b), .int (f_X2_qOf a)] _ _
    refine qq_icmp_ne (tgt := 40) dX2_areNear_19 (by decide) (fun c2 => ?_) (fun c2 => ?_)
    · refine qq_iconst (v := 0) dX2_areNear_40 (by decide) ?_
      refine qq_iret dX2_areNear_41 rfl rfl ⟨?_, rfl⟩
      rw [f_X2_areNear, if_neg c1, if_neg c2]
    · refine qq_iload_n dX2_areNear_22 rfl 0 rfl ?_
      refine qq_callS (bc := 0) (bs := 0) (mc := 0) (ms := 0) (as := [.int a]) (rest := []) dX2_areNear_23 (mt_X2_hasQuarterAsTrue hp a) rfl kl_X2_34 ks_X2_hasQuarterAsTrue ki_X2 kc_X2_hasQuarterAsTrue kd_X2_hasQuarterAsTrue rfl (by decide) (by decide) (Nat.le_of_ble_eq_true rfl) (fun v hp' hv _ _ => ?_) (fun E hp' h _ _ => h.elim)
      obtain ⟨rfl, rfl⟩ := hv
      show qq_Go _ hp 0 0 26 [(0, .int a), (1, .int b)] [.int (f_X2_hasQuarterAsTrue a)] _ _
      refine qq_if_eq (tgt := 40) dX2_areNear_26 (by decide) (fun c3 => ?_) (fun c3 => ?_)
      · refine qq_iconst (v := 0) dX2_areNear_40 (by decide) ?_
        refine qq_iret dX2_areNear_41 rfl rfl ⟨?_, rfl⟩
        rw [f_X2_areNear, if_neg c1, if_pos c2, if_pos c3]
      · refine qq_iload_n dX2_areNear_29 rfl 1 rfl ?_
        refine qq_callS (bc := 0) (bs := 0) (mc := 0) (ms := 0) (as := [.int b]) (rest := []) dX2_areNear_30 (mt_X2_hasQuarterAsTrue hp b) rfl kl_X2_34 ks_X2_hasQuarterAsTrue ki_X2 kc_X2_hasQuarterAsTrue kd_X2_hasQuarterAsTrue rfl (by decide) (by decide) (Nat.le_of_ble_eq_true rfl) (fun v hp' hv _ _ => ?_) (fun E hp' h _ _ => h.elim)
        obtain ⟨rfl, rfl⟩ := hv
        show qq_Go _ hp 0 0 33 [(0, .int a), (1, .int b)] [.int (f_X2_hasQuarterAsTrue b)] _ _
        refine qq_if_eq (tgt := 40) dX2_areNear_33 (by decide) (fun c4 => ?_) (fun c4 => ?_)
        · refine qq_iconst (v := 0) dX2_areNear_40 (by decide) ?_
          refine qq_iret dX2_areNear_41 rfl rfl ⟨?_, rfl⟩
          rw [f_X2_areNear, if_neg c1, if_pos c2, if_neg c3, if_pos c4]
        · refine qq_iconst (v := 1) dX2_areNear_36 (by decide) ?_
          refine qq_goto (tgt := 41) dX2_areNear_37 (by decide) ?_
          refine qq_iret dX2_areNear_41 rfl rfl ⟨?_, rfl⟩
          rw [f_X2_areNear, if_neg c1, if_pos c2, if_neg c3, if_neg c4]
def f_X2_mostSteps (q : Int32) : Int32 := if q < (-12) then if q < (-16) then if q < (-20) then if q < (-24) then if q < (-28) then 124 else 53 else 10 else 6 else 5 else 2
set_option maxRecDepth 4000 in
theorem mt_X2_mostSteps (hp : qq_H) (q : Int32) : qq_Mt mX2_mostSteps [.int q] hp 0 0 (fun v hp' => v = some (.int (f_X2_mostSteps q)) ∧ hp = hp') (fun _ _ => False) := by
  refine qq_met (by decide +kernel) (Nat.le_of_ble_eq_true rfl) (Nat.le_of_ble_eq_true rfl) kc_X2_mostSteps ?_
  show qq_Go _ hp 0 0 0 [(0, .int q)] [] _ _
  refine qq_iload_n dX2_mostSteps_0 rfl 0 rfl ?_
  refine qq_bipush (v := (-12)) dX2_mostSteps_1 (by decide) ?_
  refine qq_icmp_lt (tgt := 8) dX2_mostSteps_3 (by decide) (fun c1 => ?_) (fun c1 => ?_)
  · refine qq_iload_n dX2_mostSteps_8 rfl 0 rfl ?_
    refine qq_bipush (v := (-16)) dX2_mostSteps_9 (by decide) ?_
    refine qq_icmp_lt (tgt := 16) dX2_mostSteps_11 (by decide) (fun c2 => ?_) (fun c2 => ?_)
    · refine qq_iload_n dX2_mostSteps_16 rfl 0 rfl ?_
      refine qq_bipush (v := (-20)) dX2_mostSteps_17 (by decide) ?_
      refine qq_icmp_lt (tgt := 25) dX2_mostSteps_19 (by decide) (fun c3 => ?_) (fun c3 => ?_)
      · refine qq_iload_n dX2_mostSteps_25 rfl 0 rfl ?_
        refine qq_bipush (v := (-24)) dX2_mostSteps_26 (by decide) ?_
        refine qq_icmp_lt (tgt := 34) dX2_mostSteps_28 (by decide) (fun c4 => ?_) (fun c4 => ?_)
        · refine qq_iload_n dX2_mostSteps_34 rfl 0 rfl ?_
          refine qq_bipush (v := (-28)) dX2_mostSteps_35 (by decide) ?_
          refine qq_icmp_lt (tgt := 45) dX2_mostSteps_37 (by decide) (fun c5 => ?_) (fun c5 => ?_)
          · refine qq_bipush (v := 124) dX2_mostSteps_45 (by decide) ?_
            refine qq_iret dX2_mostSteps_47 rfl rfl ⟨?_, rfl⟩
            rw [f_X2_mostSteps, if_pos c1, if_pos c2, if_pos c3, if_pos c4, if_pos c5]
          · refine qq_bipush (v := 53) dX2_mostSteps_40 (by decide) ?_
            refine qq_goto (tgt := 47) dX2_mostSteps_42 (by decide) ?_
            refine qq_iret dX2_mostSteps_47 rfl rfl ⟨?_, rfl⟩
            rw [f_X2_mostSteps, if_pos c1, if_pos c2, if_pos c3, if_pos c4, if_neg c5]
        · refine qq_bipush (v := 10) dX2_mostSteps_31 (by decide) ?_
          refine qq_iret dX2_mostSteps_33 rfl rfl ⟨?_, rfl⟩
          rw [f_X2_mostSteps, if_pos c1, if_pos c2, if_pos c3, if_neg c4]
      · refine qq_bipush (v := 6) dX2_mostSteps_22 (by decide) ?_
        refine qq_iret dX2_mostSteps_24 rfl rfl ⟨?_, rfl⟩
        rw [f_X2_mostSteps, if_pos c1, if_pos c2, if_neg c3]
    · refine qq_iconst (v := 5) dX2_mostSteps_14 (by decide) ?_
      refine qq_iret dX2_mostSteps_15 rfl rfl ⟨?_, rfl⟩
      rw [f_X2_mostSteps, if_pos c1, if_neg c2]
  · refine qq_iconst (v := 2) dX2_mostSteps_6 (by decide) ?_
    refine qq_iret dX2_mostSteps_7 rfl rfl ⟨?_, rfl⟩
    rw [f_X2_mostSteps, if_neg c1]
def f_X1_mantissaOf (w : Int64) : Int64 := 4503599627370496 ||| (w &&& 4503599627370495)
set_option maxRecDepth 4000 in
theorem mt_X1_mantissaOf (hp : qq_H) (w : Int64) : qq_Mt mX1_mantissaOf [.long w] hp 0 0 (fun v hp' => v = some (.long (f_X1_mantissaOf w)) ∧ hp = hp') (fun _ _ => False) := by
  refine qq_met (by decide +kernel) (Nat.le_of_ble_eq_true rfl) (Nat.le_of_ble_eq_true rfl) kc_X1_mantissaOf ?_
  show qq_Go _ hp 0 0 0 [(0, .long w)] [] _ _
  refine qq_ldc2 (v := 4503599627370496) dX1_mantissaOf_0 kl_X1_50 ?_
  refine qq_lload_n dX1_mantissaOf_3 rfl 0 rfl ?_
  refine qq_ldc2 (v := 4503599627370495) dX1_mantissaOf_4 kl_X1_52 ?_
  refine qq_land dX1_mantissaOf_7 ?_
  refine qq_lor dX1_mantissaOf_8 ?_
  refine qq_lret dX1_mantissaOf_9 rfl ⟨?_, rfl⟩
  rfl
def f_X1_exponentOf (w : Int64) : Int32 := ((w >>> ((52 : Int32).toInt64 &&& 63)).toInt32) &&& 2047
set_option maxRecDepth 4000 in
theorem mt_X1_exponentOf (hp : qq_H) (w : Int64) : qq_Mt mX1_exponentOf [.long w] hp 0 0 (fun v hp' => v = some (.int (f_X1_exponentOf w)) ∧ hp = hp') (fun _ _ => False) := by
  refine qq_met (by decide +kernel) (Nat.le_of_ble_eq_true rfl) (Nat.le_of_ble_eq_true rfl) kc_X1_exponentOf ?_
  show qq_Go _ hp 0 0 0 [(0, .long w)] [] _ _
  refine qq_lload_n dX1_exponentOf_0 rfl 0 rfl ?_
  refine qq_bipush (v := 52) dX1_exponentOf_1 (by decide) ?_
  refine qq_lshr dX1_exponentOf_3 ?_
  refine qq_l2i dX1_exponentOf_4 ?_
  refine qq_sipush (v := 2047) dX1_exponentOf_5 (by decide) ?_
  refine qq_iand dX1_exponentOf_8 ?_
  refine qq_iret dX1_exponentOf_9 rfl rfl ⟨?_, rfl⟩
  rfl
def f_X1_compare (a : Int64) (b : Int64) : Int32 := if a = b then 0 else if 0 ≤ a then if b ≤ a then 1 else (-1) else if 0 ≤ b then if b ≤ a then 1 else (-1) else if a ≤ b then 1 else (-1)
set_option maxRecDepth 4000 in
theorem mt_X1_compare (hp : qq_H) (a : Int64) (b : Int64) : qq_Mt mX1_compare [.long a, .long b] hp 0 0 (fun v hp' => v = some (.int (f_X1_compare a b)) ∧ hp = hp') (fun _ _ => False) := by
  refine qq_met (by decide +kernel) (Nat.le_of_ble_eq_true rfl) (Nat.le_of_ble_eq_true rfl) kc_X1_compare ?_
  show qq_Go _ hp 0 0 0 [(0, .long a), (2, .long b)] [] _ _
  refine qq_lload_n dX1_compare_0 rfl 0 rfl ?_
  refine qq_lload_n dX1_compare_1 rfl 1 rfl ?_
  refine qq_lc_ne (tgt := 8) dX1_compare_2 dX1_compare_3 (by decide) (fun c1 => ?_) (fun c1 => ?_)
  · refine qq_lload_n dX1_compare_8 rfl 0 rfl ?_
    refine qq_lconst (v := 0) dX1_compare_9 (by decide) ?_
    refine qq_lc_ge (tgt := 34) dX1_compare_10 dX1_compare_11 (by decide) (fun c2 => ?_) (fun c2 => ?_)
    · refine qq_lload_n dX1_compare_34 rfl 0 rfl ?_
      refine qq_lload_n dX1_compare_35 rfl 1 rfl ?_
      refine qq_lc_ge (tgt := 44) dX1_compare_36 dX1_compare_37 (by decide) (fun c3 => ?_) (fun c3 => ?_)
      · refine qq_iconst (v := 0) dX1_compare_44 (by decide) ?_
        refine qq_istore (loc' := [(0, .long a), (2, .long b), (4, .int 0)]) dX1_compare_45 [1, 2, 0] (Nat.le_of_ble_eq_true rfl) rfl ?_
        refine qq_iload dX1_compare_47 2 rfl ?_
        refine qq_if_eq (tgt := 56) dX1_compare_49 (by decide) (fun _ => ?_) (fun z => absurd (by decide) z)
        refine qq_iconst (v := 1) dX1_compare_56 (by decide) ?_
        refine qq_iret dX1_compare_57 rfl rfl ⟨?_, rfl⟩
        rw [f_X1_compare, if_neg c1, if_pos c2, if_pos c3]
      · refine qq_iconst (v := 1) dX1_compare_40 (by decide) ?_
        refine qq_goto (tgt := 45) dX1_compare_41 (by decide) ?_
        refine qq_istore (loc' := [(0, .long a), (2, .long b), (4, .int 1)]) dX1_compare_45 [1, 2, 0] (Nat.le_of_ble_eq_true rfl) rfl ?_
        refine qq_iload dX1_compare_47 2 rfl ?_
        refine qq_if_eq (tgt := 56) dX1_compare_49 (by decide) (fun z => absurd z (by decide)) (fun _ => ?_)
        refine qq_iconst (v := (-1)) dX1_compare_52 (by decide) ?_
        refine qq_goto (tgt := 57) dX1_compare_53 (by decide) ?_
        refine qq_iret dX1_compare_57 rfl rfl ⟨?_, rfl⟩
        rw [f_X1_compare, if_neg c1, if_pos c2, if_neg c3]
    · refine qq_lload_n dX1_compare_14 rfl 1 rfl ?_
      refine qq_lconst (v := 0) dX1_compare_15 (by decide) ?_
      refine qq_lc_ge (tgt := 34) dX1_compare_16 dX1_compare_17 (by decide) (fun c4 => ?_) (fun c4 => ?_)
      · refine qq_lload_n dX1_compare_34 rfl 0 rfl ?_
        refine qq_lload_n dX1_compare_35 rfl 1 rfl ?_
        refine qq_lc_ge (tgt := 44) dX1_compare_36 dX1_compare_37 (by decide) (fun c5 => ?_) (fun c5 => ?_)
        · refine qq_iconst (v := 0) dX1_compare_44 (by decide) ?_
          refine qq_istore (loc' := [(0, .long a), (2, .long b), (4, .int 0)]) dX1_compare_45 [1, 2, 0] (Nat.le_of_ble_eq_true rfl) rfl ?_
          refine qq_iload dX1_compare_47 2 rfl ?_
          refine qq_if_eq (tgt := 56) dX1_compare_49 (by decide) (fun _ => ?_) (fun z => absurd (by decide) z)
          refine qq_iconst (v := 1) dX1_compare_56 (by decide) ?_
          refine qq_iret dX1_compare_57 rfl rfl ⟨?_, rfl⟩
          rw [f_X1_compare, if_neg c1, if_neg c2, if_pos c4, if_pos c5]
        · refine qq_iconst (v := 1) dX1_compare_40 (by decide) ?_
          refine qq_goto (tgt := 45) dX1_compare_41 (by decide) ?_
          refine qq_istore (loc' := [(0, .long a), (2, .long b), (4, .int 1)]) dX1_compare_45 [1, 2, 0] (Nat.le_of_ble_eq_true rfl) rfl ?_
          refine qq_iload dX1_compare_47 2 rfl ?_
          refine qq_if_eq (tgt := 56) dX1_compare_49 (by decide) (fun z => absurd z (by decide)) (fun _ => ?_)
          refine qq_iconst (v := (-1)) dX1_compare_52 (by decide) ?_
          refine qq_goto (tgt := 57) dX1_compare_53 (by decide) ?_
          refine qq_iret dX1_compare_57 rfl rfl ⟨?_, rfl⟩
          rw [f_X1_compare, if_neg c1, if_neg c2, if_pos c4, if_neg c5]
      · refine qq_lload_n dX1_compare_20 rfl 0 rfl ?_
        refine qq_lload_n dX1_compare_21 rfl 1 rfl ?_
        refine qq_lc_le (tgt := 30) dX1_compare_22 dX1_compare_23 (by decide) (fun c6 => ?_) (fun c6 => ?_)
        · refine qq_iconst (v := 0) dX1_compare_30 (by decide) ?_
          refine qq_goto (tgt := 45) dX1_compare_31 (by decide) ?_
          refine qq_istore (loc' := [(0, .long a), (2, .long b), (4, .int 0)]) dX1_compare_45 [1, 2, 0] (Nat.le_of_ble_eq_true rfl) rfl ?_
          refine qq_iload dX1_compare_47 2 rfl ?_
          refine qq_if_eq (tgt := 56) dX1_compare_49 (by decide) (fun _ => ?_) (fun z => absurd (by decide) z)
          refine qq_iconst (v := 1) dX1_compare_56 (by decide) ?_
          refine qq_iret dX1_compare_57 rfl rfl ⟨?_, rfl⟩
          rw [f_X1_compare, if_neg c1, if_neg c2, if_neg c4, if_pos c6]
        · refine qq_iconst (v := 1) dX1_compare_26 (by decide) ?_
          refine qq_goto (tgt := 45) dX1_compare_27 (by decide) ?_
          refine qq_istore (loc' := [(0, .long a), (2, .long b), (4, .int 1)]) dX1_compare_45 [1, 2, 0] (Nat.le_of_ble_eq_true rfl) rfl ?_
          refine qq_iload dX1_compare_47 2 rfl ?_
          refine qq_if_eq (tgt := 56) dX1_compare_49 (by decide) (fun z => absurd z (by decide)) (fun _ => ?_)
          refine qq_iconst (v := (-1)) dX1_compare_52 (by decide) ?_
          refine qq_goto (tgt := 57) dX1_compare_53 (by decide) ?_
          refine qq_iret dX1_compare_57 rfl rfl ⟨?_, rfl⟩
          rw [f_X1_compare, if_neg c1, if_neg c2, if_neg c4, if_neg c6]
  · refine qq_iconst (v := 0) dX1_compare_6 (by decide) ?_
    refine qq_iret dX1_compare_7 rfl rfl ⟨?_, rfl⟩
    rw [f_X1_compare, if_pos c1]
def f_X1_steps (a : Int64) (b : Int64) : Int64 := if 0 < (a - b) then (a - b) else -(a - b)
set_option maxRecDepth 4000 in
theorem mt_X1_steps (hp : qq_H) (a : Int64) (b : Int64) : qq_Mt mX1_steps [.long a, .long b] hp 0 0 (fun v hp' => v = some (.long (f_X1_steps a b)) ∧ hp = hp') (fun _ _ => False) := by
  refine qq_met (by decide +kernel) (Nat.le_of_ble_eq_true rfl) (Nat.le_of_ble_eq_true rfl) kc_X1_steps ?_
  show qq_Go _ hp 0 0 0 [(0, .long a), (2, .long b)] [] _ _
  refine qq_lload_n dX1_steps_0 rfl 0 rfl ?_
  refine qq_lload_n dX1_steps_1 rfl 1 rfl ?_
  refine qq_lsub dX1_steps_2 ?_
  refine qq_absJ dX1_steps_3 kl_X1_54 ks_absJ ki_J9 kc_absJ (Nat.le_of_ble_eq_true rfl) ?_
  refine qq_lret dX1_steps_6 rfl ⟨?_, rfl⟩
  rfl
def f_X1_heightOf (w : Int64) : Int32 := (f_X1_exponentOf w) - 1023
set_option maxRecDepth 4000 in
theorem mt_X1_heightOf (hp : qq_H) (w : Int64) : qq_Mt mX1_heightOf [.long w] hp 0 0 (fun v hp' => v = some (.int (f_X1_heightOf w)) ∧ hp = hp') (fun _ _ => False) := by
  refine qq_met (by decide +kernel) (Nat.le_of_ble_eq_true rfl) (Nat.le_of_ble_eq_true rfl) kc_X1_heightOf ?_
  show qq_Go _ hp 0 0 0 [(0, .long w)] [] _ _
  refine qq_lload_n dX1_heightOf_0 rfl 0 rfl ?_
  refine qq_callS (bc := 0) (bs := 0) (mc := 0) (ms := 0) (as := [.long w]) (rest := []) dX1_heightOf_1 (mt_X1_exponentOf hp w) rfl kl_X1_60 ks_X1_exponentOf ki_X1 kc_X1_exponentOf kd_X1_exponentOf rfl (by decide) (by decide) (Nat.le_of_ble_eq_true rfl) (fun v hp' hv _ _ => ?_) (fun E hp' h _ _ => h.elim)
  obtain ⟨rfl, rfl⟩ := hv
  show qq_Go _ hp 0 0 4 [(0, .long w)] [.int (f_X1_exponentOf w)] _ _
  refine qq_sipush (v := 1023) dX1_heightOf_4 (by decide) ?_
  refine qq_isub dX1_heightOf_7 ?_
  refine qq_iret dX1_heightOf_8 rfl rfl ⟨?_, rfl⟩
  rfl
def f_X1_firstDigits (w : Int64) : Int32 := ((f_X1_mantissaOf w) >>> ((22 : Int32).toInt64 &&& 63)).toInt32
set_option maxRecDepth 4000 in
theorem mt_X1_firstDigits (hp : qq_H) (w : Int64) : qq_Mt mX1_firstDigits [.long w] hp 0 0 (fun v hp' => v = some (.int (f_X1_firstDigits w)) ∧ hp = hp') (fun _ _ => False) := by
  refine qq_met (by decide +kernel) (Nat.le_of_ble_eq_true rfl) (Nat.le_of_ble_eq_true rfl) kc_X1_firstDigits ?_
  show qq_Go _ hp 0 0 0 [(0, .long w)] [] _ _
  refine qq_lload_n dX1_firstDigits_0 rfl 0 rfl ?_
  refine qq_callS (bc := 0) (bs := 0) (mc := 0) (ms := 0) (as := [.long w]) (rest := []) dX1_firstDigits_1 (mt_X1_mantissaOf hp w) rfl kl_X1_64 ks_X1_mantissaOf ki_X1 kc_X1_mantissaOf kd_X1_mantissaOf rfl (by decide) (by decide) (Nat.le_of_ble_eq_true rfl) (fun v hp' hv _ _ => ?_) (fun E hp' h _ _ => h.elim)
  obtain ⟨rfl, rfl⟩ := hv
  show qq_Go _ hp 0 0 4 [(0, .long w)] [.long (f_X1_mantissaOf w)] _ _
  refine qq_bipush (v := 22) dX1_firstDigits_4 (by decide) ?_
  refine qq_lshr dX1_firstDigits_6 ?_
  refine qq_l2i dX1_firstDigits_7 ?_
  refine qq_iret dX1_firstDigits_8 rfl rfl ⟨?_, rfl⟩
  rfl
def f_X1_roundedDown (w : Int64) (k : Int32) : Int64 := if w = 0 then 0 else if w = (-9223372036854775808) then 0 else if 0 ≤ ((1075 - (f_X1_exponentOf w)) - k) then if ((1075 - (f_X1_exponentOf w)) - k) ≤ 52 then if 52 < ((1075 - (f_X1_exponentOf w)) - k) then if 0 ≤ w then (f_X1_mantissaOf w) >>> (((1075 - (f_X1_exponentOf w)) - k).toInt64 &&& 63) else (-((f_X1_mantissaOf w) >>> (((1075 - (f_X1_exponentOf w)) - k).toInt64 &&& 63))) - 1 else if (((f_X1_mantissaOf w) >>> (((1075 - (f_X1_exponentOf w)) - k).toInt64 &&& 63)) <<< (((1075 - (f_X1_exponentOf w)) - k).toInt64 &&& 63)) = (f_X1_mantissaOf w) then if 0 ≤ w then (f_X1_mantissaOf w) >>> (((1075 - (f_X1_exponentOf w)) - k).toInt64 &&& 63) else -((f_X1_mantissaOf w) >>> (((1075 - (f_X1_exponentOf w)) - k).toInt64 &&& 63)) else if 0 ≤ w then (f_X1_mantissaOf w) >>> (((1075 - (f_X1_exponentOf w)) - k).toInt64 &&& 63) else (-((f_X1_mantissaOf w) >>> (((1075 - (f_X1_exponentOf w)) - k).toInt64 &&& 63))) - 1 else if 52 < ((1075 - (f_X1_exponentOf w)) - k) then if 0 ≤ w then 0 else (-0) - 1 else if (0 <<< (((1075 - (f_X1_exponentOf w)) - k).toInt64 &&& 63)) = (f_X1_mantissaOf w) then if 0 ≤ w then 0 else -0 else if 0 ≤ w then 0 else (-0) - 1 else if 0 ≤ w then 9007199254740992 else -9007199254740992
set_option maxRecDepth 4000 in
theorem mt_X1_roundedDown (hp : qq_H) (w : Int64) (k : Int32) : qq_Mt mX1_roundedDown [.long w, .int k] hp 0 0 (fun v hp' => v = some (.long (f_X1_roundedDown w k)) ∧ hp = hp') (fun _ _ => False) := by
  refine qq_met (by decide +kernel) (Nat.le_of_ble_eq_true rfl) (Nat.le_of_ble_eq_true rfl) kc_X1_roundedDown ?_
  show qq_Go _ hp 0 0 0 [(0, .long w), (2, .int k)] [] _ _
  refine qq_lload_n dX1_roundedDown_0 rfl 0 rfl ?_
  refine qq_lconst (v := 0) dX1_roundedDown_1 (by decide) ?_
  refine qq_lc_eq (tgt := 14) dX1_roundedDown_2 dX1_roundedDown_3 (by decide) (fun c1 => ?_) (fun c1 => ?_)
  · refine qq_lconst (v := 0) dX1_roundedDown_14 (by decide) ?_
    refine qq_lret dX1_roundedDown_15 rfl ⟨?_, rfl⟩
    rw [f_X1_roundedDown, if_pos c1]
  · refine qq_lload_n dX1_roundedDown_6 rfl 0 rfl ?_
    refine qq_ldc2 (v := (-9223372036854775808)) dX1_roundedDown_7 kl_X1_26 ?_
    refine qq_lc_ne (tgt := 16) dX1_roundedDown_10 dX1_roundedDown_11 (by decide) (fun c2 => ?_) (fun c2 => ?_)
    · refine qq_lload_n dX1_roundedDown_16 rfl 0 rfl ?_
      refine qq_callS (bc := 0) (bs := 0) (mc := 0) (ms := 0) (as := [.long w]) (rest := []) dX1_roundedDown_17 (mt_X1_mantissaOf hp w) rfl kl_X1_64 ks_X1_mantissaOf ki_X1 kc_X1_mantissaOf kd_X1_mantissaOf rfl (by decide) (by decide) (Nat.le_of_ble_eq_true rfl) (fun v hp' hv _ _ => ?_) (fun E hp' h _ _ => h.elim)
      obtain ⟨rfl, rfl⟩ := hv
      show qq_Go _ hp 0 0 20 [(0, .long w), (2, .int k)] [.long (f_X1_mantissaOf w)] _ _
      refine qq_lstore_n (loc' := [(0, .long w), (2, .int k), (3, .long (f_X1_mantissaOf w))]) dX1_roundedDown_20 rfl [1, 2, 0] (Nat.le_of_ble_eq_true rfl) rfl ?_
      refine qq_sipush (v := 1075) dX1_roundedDown_21 (by decide) ?_
      refine qq_lload_n dX1_roundedDown_24 rfl 0 rfl ?_
      refine qq_callS (bc := 0) (bs := 0) (mc := 0) (ms := 0) (as := [.long w]) (rest := [.int 1075]) dX1_roundedDown_25 (mt_X1_exponentOf hp w) rfl kl_X1_60 ks_X1_exponentOf ki_X1 kc_X1_exponentOf kd_X1_exponentOf rfl (by decide) (by decide) (Nat.le_of_ble_eq_true rfl) (fun v hp' hv _ _ => ?_) (fun E hp' h _ _ => h.elim)
      obtain ⟨rfl, rfl⟩ := hv
      show qq_Go _ hp 0 0 28 [(0, .long w), (2, .int k), (3, .long (f_X1_mantissaOf w))] [.int (f_X1_exponentOf w), .int 1075] _ _
      refine qq_isub dX1_roundedDown_28 ?_
      refine qq_iload_n dX1_roundedDown_29 rfl 1 rfl ?_
      refine qq_isub dX1_roundedDown_30 ?_
      refine qq_istore (loc' := [(0, .long w), (2, .int k), (3, .long (f_X1_mantissaOf w)), (5, .int ((1075 - (f_X1_exponentOf w)) - k))]) dX1_roundedDown_31 [1, 2, 3, 0] (Nat.le_of_ble_eq_true rfl) rfl ?_
      refine qq_iload dX1_roundedDown_33 3 rfl ?_
      refine qq_if_ge (tgt := 54) dX1_roundedDown_35 (by decide) (fun c3 => ?_) (fun c3 => ?_)
      · refine qq_iload dX1_roundedDown_54 3 rfl ?_
        refine qq_bipush (v := 52) dX1_roundedDown_56 (by decide) ?_
        refine qq_icmp_le (tgt := 65) dX1_roundedDown_58 (by decide) (fun c4 => ?_) (fun c4 => ?_)
        · refine qq_lload_n dX1_roundedDown_65 rfl 2 rfl ?_
          refine qq_iload dX1_roundedDown_66 3 rfl ?_
          refine qq_lshr dX1_roundedDown_68 ?_
          refine qq_lstore (loc' := [(0, .long w), (2, .int k), (3, .long (f_X1_mantissaOf w)), (5, .int ((1075 - (f_X1_exponentOf w)) - k)), (6, .long ((f_X1_mantissaOf w) >>> (((1075 - (f_X1_exponentOf w)) - k).toInt64 &&& 63)))]) dX1_roundedDown_69 [1, 2, 3, 4, 0] (Nat.le_of_ble_eq_true rfl) rfl ?_
          refine qq_iload dX1_roundedDown_71 3 rfl ?_
          refine qq_bipush (v := 52) dX1_roundedDown_73 (by decide) ?_
          refine qq_icmp_gt (tgt := 88) dX1_roundedDown_75 (by decide) (fun c5 => ?_) (fun c5 => ?_)
          · refine qq_iconst (v := 1) dX1_roundedDown_88 (by decide) ?_
            refine qq_goto (tgt := 93) dX1_roundedDown_89 (by decide) ?_
            refine qq_istore (loc' := [(0, .long w), (2, .int k), (3, .long (f_X1_mantissaOf w)), (5, .int ((1075 - (f_X1_exponentOf w)) - k)), (6, .long ((f_X1_mantissaOf w) >>> (((1075 - (f_X1_exponentOf w)) - k).toInt64 &&& 63))), (8, .int 1)]) dX1_roundedDown_93 [1, 2, 3, 4, 5, 0] (Nat.le_of_ble_eq_true rfl) rfl ?_
            refine qq_lload_n dX1_roundedDown_95 rfl 0 rfl ?_
            refine qq_lconst (v := 0) dX1_roundedDown_96 (by decide) ?_
            refine qq_lc_ge (tgt := 118) dX1_roundedDown_97 dX1_roundedDown_98 (by decide) (fun c6 => ?_) (fun c6 => ?_)
            · refine qq_lload dX1_roundedDown_118 4 rfl ?_
              refine qq_lret dX1_roundedDown_120 rfl ⟨?_, rfl⟩
              rw [f_X1_roundedDown, if_neg c1, if_neg c2, if_pos c3, if_pos c4, if_pos c5, if_pos c6]
            · refine qq_iload dX1_roundedDown_101 5 rfl ?_
              refine qq_if_eq (tgt := 114) dX1_roundedDown_103 (by decide) (fun z => absurd z (by decide)) (fun _ => ?_)
              refine qq_lload dX1_roundedDown_106 4 rfl ?_
              refine qq_lneg dX1_roundedDown_108 ?_
              refine qq_lconst (v := 1) dX1_roundedDown_109 (by decide) ?_
              refine qq_lsub dX1_roundedDown_110 ?_
              refine qq_goto (tgt := 117) dX1_roundedDown_111 (by decide) ?_
              refine qq_lret dX1_roundedDown_117 rfl ⟨?_, rfl⟩
              rw [f_X1_roundedDown, if_neg c1, if_neg c2, if_pos c3, if_pos c4, if_pos c5, if_neg c6]
          · refine qq_lload dX1_roundedDown_78 4 rfl ?_
            refine qq_iload dX1_roundedDown_80 3 rfl ?_
            refine qq_lshl dX1_roundedDown_82 ?_
            refine qq_lload_n dX1_roundedDown_83 rfl 2 rfl ?_
            refine qq_lc_eq (tgt := 92) dX1_roundedDown_84 dX1_roundedDown_85 (by decide) (fun c7 => ?_) (fun c7 => ?_)
            · refine qq_iconst (v := 0) dX1_roundedDown_92 (by decide) ?_
              refine qq_istore (loc' := [(0, .long w), (2, .int k), (3, .long (f_X1_mantissaOf w)), (5, .int ((1075 - (f_X1_exponentOf w)) - k)), (6, .long ((f_X1_mantissaOf w) >>> (((1075 - (f_X1_exponentOf w)) - k).toInt64 &&& 63))), (8, .int 0)]) dX1_roundedDown_93 [1, 2, 3, 4, 5, 0] (Nat.le_of_ble_eq_true rfl) rfl ?_
              refine qq_lload_n dX1_roundedDown_95 rfl 0 rfl ?_
              refine qq_lconst (v := 0) dX1_roundedDown_96 (by decide) ?_
              refine qq_lc_ge (tgt := 118) dX1_roundedDown_97 dX1_roundedDown_98 (by decide) (fun c8 => ?_) (fun c8 => ?_)
              · refine qq_lload dX1_roundedDown_118 4 rfl ?_
                refine qq_lret dX1_roundedDown_120 rfl ⟨?_, rfl⟩
                rw [f_X1_roundedDown, if_neg c1, if_neg c2, if_pos c3, if_pos c4, if_neg c5, if_pos c7, if_pos c8]
              · refine qq_iload dX1_roundedDown_101 5 rfl ?_
                refine qq_if_eq (tgt := 114) dX1_roundedDown_103 (by decide) (fun _ => ?_) (fun z => absurd (by decide) z)
                refine qq_lload dX1_roundedDown_114 4 rfl ?_
                refine qq_lneg dX1_roundedDown_116 ?_
                refine qq_lret dX1_roundedDown_117 rfl ⟨?_, rfl⟩
                rw [f_X1_roundedDown, if_neg c1, if_neg c2, if_pos c3, if_pos c4, if_neg c5, if_pos c7, if_neg c8]
            · refine qq_iconst (v := 1) dX1_roundedDown_88 (by decide) ?_
              refine qq_goto (tgt := 93) dX1_roundedDown_89 (by decide) ?_
              refine qq_istore (loc' := [(0, .long w), (2, .int k), (3, .long (f_X1_mantissaOf w)), (5, .int ((1075 - (f_X1_exponentOf w)) - k)), (6, .long ((f_X1_mantissaOf w) >>> (((1075 - (f_X1_exponentOf w)) - k).toInt64 &&& 63))), (8, .int 1)]) dX1_roundedDown_93 [1, 2, 3, 4, 5, 0] (Nat.le_of_ble_eq_true rfl) rfl ?_
              refine qq_lload_n dX1_roundedDown_95 rfl 0 rfl ?_
              refine qq_lconst (v := 0) dX1_roundedDown_96 (by decide) ?_
              refine qq_lc_ge (tgt := 118) dX1_roundedDown_97 dX1_roundedDown_98 (by decide) (fun c9 => ?_) (fun c9 => ?_)
              · refine qq_lload dX1_roundedDown_118 4 rfl ?_
                refine qq_lret dX1_roundedDown_120 rfl ⟨?_, rfl⟩
                rw [f_X1_roundedDown, if_neg c1, if_neg c2, if_pos c3, if_pos c4, if_neg c5, if_neg c7, if_pos c9]
              · refine qq_iload dX1_roundedDown_101 5 rfl ?_
                refine qq_if_eq (tgt := 114) dX1_roundedDown_103 (by decide) (fun z => absurd z (by decide)) (fun _ => ?_)
                refine qq_lload dX1_roundedDown_106 4 rfl ?_
                refine qq_lneg dX1_roundedDown_108 ?_
                refine qq_lconst (v := 1) dX1_roundedDown_109 (by decide) ?_
                refine qq_lsub dX1_roundedDown_110 ?_
                refine qq_goto (tgt := 117) dX1_roundedDown_111 (by decide) ?_
                refine qq_lret dX1_roundedDown_117 rfl ⟨?_, rfl⟩
                rw [f_X1_roundedDown, if_neg c1, if_neg c2, if_pos c3, if_pos c4, if_neg c5, if_neg c7, if_neg c9]
        · refine qq_lconst (v := 0) dX1_roundedDown_61 (by decide) ?_
          refine qq_goto (tgt := 69) dX1_roundedDown_62 (by decide) ?_
          refine qq_lstore (loc' := [(0, .long w), (2, .int k), (3, .long (f_X1_mantissaOf w)), (5, .int ((1075 - (f_X1_exponentOf w)) - k)), (6, .long 0)]) dX1_roundedDown_69 [1, 2, 3, 4, 0] (Nat.le_of_ble_eq_true rfl) rfl ?_
          refine qq_iload dX1_roundedDown_71 3 rfl ?_
          refine qq_bipush (v := 52) dX1_roundedDown_73 (by decide) ?_
          refine qq_icmp_gt (tgt := 88) dX1_roundedDown_75 (by decide) (fun c10 => ?_) (fun c10 => ?_)
          · refine qq_iconst (v := 1) dX1_roundedDown_88 (by decide) ?_
            refine qq_goto (tgt := 93) dX1_roundedDown_89 (by decide) ?_
            refine qq_istore (loc' := [(0, .long w), (2, .int k), (3, .long (f_X1_mantissaOf w)), (5, .int ((1075 - (f_X1_exponentOf w)) - k)), (6, .long 0), (8, .int 1)]) dX1_roundedDown_93 [1, 2, 3, 4, 5, 0] (Nat.le_of_ble_eq_true rfl) rfl ?_
            refine qq_lload_n dX1_roundedDown_95 rfl 0 rfl ?_
            refine qq_lconst (v := 0) dX1_roundedDown_96 (by decide) ?_
            refine qq_lc_ge (tgt := 118) dX1_roundedDown_97 dX1_roundedDown_98 (by decide) (fun c11 => ?_) (fun c11 => ?_)
            · refine qq_lload dX1_roundedDown_118 4 rfl ?_
              refine qq_lret dX1_roundedDown_120 rfl ⟨?_, rfl⟩
              rw [f_X1_roundedDown, if_neg c1, if_neg c2, if_pos c3, if_neg c4, if_pos c10, if_pos c11]
            · refine qq_iload dX1_roundedDown_101 5 rfl ?_
              refine qq_if_eq (tgt := 114) dX1_roundedDown_103 (by decide) (fun z => absurd z (by decide)) (fun _ => ?_)
              refine qq_lload dX1_roundedDown_106 4 rfl ?_
              refine qq_lneg dX1_roundedDown_108 ?_
              refine qq_lconst (v := 1) dX1_roundedDown_109 (by decide) ?_
              refine qq_lsub dX1_roundedDown_110 ?_
              refine qq_goto (tgt := 117) dX1_roundedDown_111 (by decide) ?_
              refine qq_lret dX1_roundedDown_117 rfl ⟨?_, rfl⟩
              rw [f_X1_roundedDown, if_neg c1, if_neg c2, if_pos c3, if_neg c4, if_pos c10, if_neg c11]
          · refine qq_lload dX1_roundedDown_78 4 rfl ?_
            refine qq_iload dX1_roundedDown_80 3 rfl ?_
            refine qq_lshl dX1_roundedDown_82 ?_
            refine qq_lload_n dX1_roundedDown_83 rfl 2 rfl ?_
            refine qq_lc_eq (tgt := 92) dX1_roundedDown_84 dX1_roundedDown_85 (by decide) (fun c12 => ?_) (fun c12 => ?_)
            · refine qq_iconst (v := 0) dX1_roundedDown_92 (by decide) ?_
              refine qq_istore (loc' := [(0, .long w), (2, .int k), (3, .long (f_X1_mantissaOf w)), (5, .int ((1075 - (f_X1_exponentOf w)) - k)), (6, .long 0), (8, .int 0)]) dX1_roundedDown_93 [1, 2, 3, 4, 5, 0] (Nat.le_of_ble_eq_true rfl) rfl ?_
              refine qq_lload_n dX1_roundedDown_95 rfl 0 rfl ?_
              refine qq_lconst (v := 0) dX1_roundedDown_96 (by decide) ?_
              refine qq_lc_ge (tgt := 118) dX1_roundedDown_97 dX1_roundedDown_98 (by decide) (fun c13 => ?_) (fun c13 => ?_)
              · refine qq_lload dX1_roundedDown_118 4 rfl ?_
                refine qq_lret dX1_roundedDown_120 rfl ⟨?_, rfl⟩
                rw [f_X1_roundedDown, if_neg c1, if_neg c2, if_pos c3, if_neg c4, if_neg c10, if_pos c12, if_pos c13]
              · refine qq_iload dX1_roundedDown_101 5 rfl ?_
                refine qq_if_eq (tgt := 114) dX1_roundedDown_103 (by decide) (fun _ => ?_) (fun z => absurd (by decide) z)
                refine qq_lload dX1_roundedDown_114 4 rfl ?_
                refine qq_lneg dX1_roundedDown_116 ?_
                refine qq_lret dX1_roundedDown_117 rfl ⟨?_, rfl⟩
                rw [f_X1_roundedDown, if_neg c1, if_neg c2, if_pos c3, if_neg c4, if_neg c10, if_pos c12, if_neg c13]
            · refine qq_iconst (v := 1) dX1_roundedDown_88 (by decide) ?_
              refine qq_goto (tgt := 93) dX1_roundedDown_89 (by decide) ?_
              refine qq_istore (loc' := [(0, .long w), (2, .int k), (3, .long (f_X1_mantissaOf w)), (5, .int ((1075 - (f_X1_exponentOf w)) - k)), (6, .long 0), (8, .int 1)]) dX1_roundedDown_93 [1, 2, 3, 4, 5, 0] (Nat.le_of_ble_eq_true rfl) rfl ?_
              refine qq_lload_n dX1_roundedDown_95 rfl 0 rfl ?_
              refine qq_lconst (v := 0) dX1_roundedDown_96 (by decide) ?_
              refine qq_lc_ge (tgt := 118) dX1_roundedDown_97 dX1_roundedDown_98 (by decide) (fun c14 => ?_) (fun c14 => ?_)
              · refine qq_lload dX1_roundedDown_118 4 rfl ?_
                refine qq_lret dX1_roundedDown_120 rfl ⟨?_, rfl⟩
                rw [f_X1_roundedDown, if_neg c1, if_neg c2, if_pos c3, if_neg c4, if_neg c10, if_neg c12, if_pos c14]
              · refine qq_iload dX1_roundedDown_101 5 rfl ?_
                refine qq_if_eq (tgt := 114) dX1_roundedDown_103 (by decide) (fun z => absurd z (by decide)) (fun _ => ?_)
                refine qq_lload dX1_roundedDown_106 4 rfl ?_
                refine qq_lneg dX1_roundedDown_108 ?_
                refine qq_lconst (v := 1) dX1_roundedDown_109 (by decide) ?_
                refine qq_lsub dX1_roundedDown_110 ?_
                refine qq_goto (tgt := 117) dX1_roundedDown_111 (by decide) ?_
                refine qq_lret dX1_roundedDown_117 rfl ⟨?_, rfl⟩
                rw [f_X1_roundedDown, if_neg c1, if_neg c2, if_pos c3, if_neg c4, if_neg c10, if_neg c12, if_neg c14]
      · refine qq_lload_n dX1_roundedDown_38 rfl 0 rfl ?_
        refine qq_lconst (v := 0) dX1_roundedDown_39 (by decide) ?_
        refine qq_lc_ge (tgt := 50) dX1_roundedDown_40 dX1_roundedDown_41 (by decide) (fun c15 => ?_) (fun c15 => ?_)
        · refine qq_ldc2 (v := 9007199254740992) dX1_roundedDown_50 kl_X1_69 ?_
          refine qq_lret dX1_roundedDown_53 rfl ⟨?_, rfl⟩
          rw [f_X1_roundedDown, if_neg c1, if_neg c2, if_neg c3, if_pos c15]
        · refine qq_ldc2 (v := (-9007199254740992)) dX1_roundedDown_44 kl_X1_67 ?_
          refine qq_goto (tgt := 53) dX1_roundedDown_47 (by decide) ?_
          refine qq_lret dX1_roundedDown_53 rfl ⟨?_, rfl⟩
          rw [f_X1_roundedDown, if_neg c1, if_neg c2, if_neg c3, if_neg c15]
    · refine qq_lconst (v := 0) dX1_roundedDown_14 (by decide) ?_
      refine qq_lret dX1_roundedDown_15 rfl ⟨?_, rfl⟩
      rw [f_X1_roundedDown, if_neg c1, if_pos c2]