def lr_X7_root_12 (isB : Int32)  : Nat → Int32 → (Nat → Int32) → (Nat → Int32) → (Nat → Int32) × (Nat → Int32)
  | 0, _, f1, f2 => (f1, f2)
  | fu + 1, n9, f1, f2 => if (r_X7_isNothing f2) = 0 then if isB = 0 then lr_X7_root_12 isB fu (n9 + 1) (r_X7_add (0 : Int32) (r_X7_divideA (4 * n9) f2) f1) (r_X7_divideA (4 * n9) f2) else if (n9 - n9 / 2 * 2) = 1 then lr_X7_root_12 isB fu (n9 + 1) (r_X7_add (1 : Int32) (r_X7_divideA (4 * n9) f2) f1) (r_X7_divideA (4 * n9) f2) else lr_X7_root_12 isB fu (n9 + 1) (r_X7_add (0 : Int32) (r_X7_divideA (4 * n9) f2) f1) (r_X7_divideA (4 * n9) f2) else (f1, f2)
set_option maxRecDepth 4000 in
theorem lq_X7_root_12 (hp : qq_H) (isB : Int32)   (hE80 : 80 ≤ hp.1) : ∀ (fu : Nat) (n9 : Int32) (f1 : (Nat → Int32)) (f2 : (Nat → Int32)), qi_root n9 f2 → tv f2 0 11 < fu → qq_Go mX7_root (qq_nw (qq_nw hp (.inl (0, 11, .inl f1))) (.inl (0, 11, .inl f2))) 0 0 12 [(0, .int isB), (1, .ref hp.1), (2, .ref (hp.1 + 1)), (3, .int n9)] [] (fun v hp' => v = some (.ref hp.1) ∧ (qq_nw (qq_nw hp (.inl (0, 11, .inl ((lr_X7_root_12 isB fu n9 f1 f2).1)))) (.inl (0, 11, .inl ((lr_X7_root_12 isB fu n9 f1 f2).2)))) = hp') (fun _ _ => False) := by
  intro fu
  induction fu with
  | zero =>
    intro _ _ _ _ zz
    exact absurd zz (Nat.not_lt_zero _)
  | succ fu lqih =>
    intro n9 f1 f2 zn zh
    refine qq_aload_n dX7_root_12 rfl 2 rfl ?_
    refine qq_callS (bc := 0) (bs := 0) (mc := 0) (ms := 0) (as := [.ref (hp.1 + 1)]) (rest := []) dX7_root_13 (mt_X7_isNothing (qq_nw (qq_nw hp (.inl (0, 11, .inl f1))) (.inl (0, 11, .inl f2)))  (hp.1 + 1) f2 (qq_nws) ) rfl kl_X7_60 ks_X7_isNothing ki_X7 kc_X7_isNothing kd_X7_isNothing rfl (by decide) (by decide) (Nat.le_of_ble_eq_true rfl) (fun v hp' hv _ _ => ?_) (fun E hp' zx _ _ => zx.elim)
    obtain ⟨rfl, rfl⟩ := hv
    show qq_Go _ (qq_nw (qq_nw hp (.inl (0, 11, .inl f1))) (.inl (0, 11, .inl f2))) 0 0 16 [(0, .int isB), (1, .ref hp.1), (2, .ref (hp.1 + 1)), (3, .int n9)] [.int (r_X7_isNothing f2)] _ _
    refine qq_if_ne (tgt := 54) dX7_root_16 (by decide) (fun zc1 => ?_) (fun zc1 => ?_)
    · refine qq_aload_n dX7_root_54 rfl 1 rfl ?_
      have ze : lr_X7_root_12 isB (fu + 1) n9 f1 f2 = (f1, f2) := by
        rw [lr_X7_root_12, if_neg zc1]
      exact qq_aret dX7_root_55 rfl (Or.inr ⟨_, rfl⟩) (Or.inr ⟨_, rfl⟩) ⟨rfl, by rw [ze]⟩
    · refine qq_aload_n dX7_root_19 rfl 2 rfl ?_
      refine qq_iconst (v := 4) dX7_root_20 (by decide) ?_
      refine qq_iload_n dX7_root_21 rfl 3 rfl ?_
      refine qq_imul dX7_root_22 ?_
      refine qq_aload_n dX7_root_23 rfl 2 rfl ?_
      refine qq_callS (bc := 0) (bs := 0) (mc := 0) (ms := 0) (as := [.ref (hp.1 + 1), .int (4 * n9), .ref (hp.1 + 1)]) (rest := []) dX7_root_24 (mt_X7_divideA (qq_nw (qq_nw hp (.inl (0, 11, .inl f1))) (.inl (0, 11, .inl f2))) (4 * n9) (hp.1 + 1) f2 (qq_nws) (by have := hE80; first | exact this | omega) (qi_nz zn (by assumption))) rfl kl_X7_64 ks_X7_divide ki_X7 kc_X7_divide kd_X7_divide rfl (by decide) (by decide) (Nat.le_of_ble_eq_true rfl) (fun v hp' hv _ _ => ?_) (fun E hp' zx _ _ => zx.elim)
      obtain ⟨rfl, rfl⟩ := hv
      refine qq_hp qq_pnw ?_
      show qq_Go _ (qq_nw (qq_nw hp (.inl (0, 11, .inl f1))) (.inl (0, 11, .inl (r_X7_divideA (4 * n9) f2)))) 0 0 27 [(0, .int isB), (1, .ref hp.1), (2, .ref (hp.1 + 1)), (3, .int n9)] [] _ _
      refine qq_aload_n dX7_root_27 rfl 1 rfl ?_
      refine qq_aload_n dX7_root_28 rfl 2 rfl ?_
      refine qq_iload_n dX7_root_29 rfl 0 rfl ?_
      refine qq_if_eq (tgt := 44) dX7_root_30 (by decide) (fun zc2 => ?_) (fun zc2 => ?_)
      · refine qq_iconst (v := 0) dX7_root_44 (by decide) ?_
        refine qq_callS (bc := 0) (bs := 0) (mc := 0) (ms := 0) (as := [.ref hp.1, .ref (hp.1 + 1), .int 0]) (rest := []) dX7_root_45 (mt_X7_add (qq_nw (qq_nw hp (.inl (0, 11, .inl f1))) (.inl (0, 11, .inl (r_X7_divideA (4 * n9) f2)))) (0 : Int32) (hp.1 + 1) hp.1 (r_X7_divideA (4 * n9) f2) f1 (qq_nws) (qq_nwo (by first | exact Nat.lt_succ_self _ | (simp only [qq_nw1, qq_pt1]; omega)) (qq_nws)) (by have := hE80; first | exact this | omega) (by show _ ≠ _; have := hE80; omega) ) rfl kl_X7_56 ks_X7_add ki_X7 kc_X7_add kd_X7_add rfl (by decide) (by decide) (Nat.le_of_ble_eq_true rfl) (fun v hp' hv _ _ => ?_) (fun E hp' zx _ _ => zx.elim)
        obtain ⟨rfl, rfl⟩ := hv
        refine qq_hp ((qq_pno (by first | exact Nat.lt_succ_self _ | (simp only [qq_nw1, qq_pt1]; omega))).trans (congrArg (fun z => qq_nw z (.inl (0, 11, .inl (r_X7_divideA (4 * n9) f2)))) qq_pnw)) ?_
        show qq_Go _ (qq_nw (qq_nw hp (.inl (0, 11, .inl (r_X7_add (0 : Int32) (r_X7_divideA (4 * n9) f2) f1)))) (.inl (0, 11, .inl (r_X7_divideA (4 * n9) f2)))) 0 0 48 [(0, .int isB), (1, .ref hp.1), (2, .ref (hp.1 + 1)), (3, .int n9)] [] _ _
        refine qq_iinc (v := n9 + 1) (loc' := [(0, .int isB), (1, .ref hp.1), (2, .ref (hp.1 + 1)), (3, .int (n9 + 1))]) dX7_root_48 3 rfl rfl [1, 2, 3, 0] (Nat.le_of_ble_eq_true rfl) rfl ?_
        refine qq_goto (tgt := 12) dX7_root_51 (by decide) ?_
        have ze : lr_X7_root_12 isB (fu + 1) n9 f1 f2 = lr_X7_root_12 isB fu (n9 + 1) (r_X7_add (0 : Int32) (r_X7_divideA (4 * n9) f2) f1) (r_X7_divideA (4 * n9) f2) := by
          rw [lr_X7_root_12, if_pos zc1, if_pos zc2]
        rw [ze]
        exact lqih (n9 + 1) (r_X7_add (0 : Int32) (r_X7_divideA (4 * n9) f2) f1) (r_X7_divideA (4 * n9) f2) (qi_rn zn (by assumption)) (qi_rt zn (by assumption) zh)
      · refine qq_iload_n dX7_root_33 rfl 3 rfl ?_
        refine qq_iconst (v := 2) dX7_root_34 (by decide) ?_
        refine qq_irem dX7_root_35 (by decide) ?_
        refine qq_iconst (v := 1) dX7_root_36 (by decide) ?_
        refine qq_icmp_ne (tgt := 44) dX7_root_37 (by decide) (fun zc3 => ?_) (fun zc3 => ?_)
        · refine qq_iconst (v := 0) dX7_root_44 (by decide) ?_
          refine qq_callS (bc := 0) (bs := 0) (mc := 0) (ms := 0) (as := [.ref hp.1, .ref (hp.1 + 1), .int 0]) (rest := []) dX7_root_45 (mt_X7_add (qq_nw (qq_nw hp (.inl (0, 11, .inl f1))) (.inl (0, 11, .inl (r_X7_divideA (4 * n9) f2)))) (0 : Int32) (hp.1 + 1) hp.1 (r_X7_divideA (4 * n9) f2) f1 (qq_nws) (qq_nwo (by first | exact Nat.lt_succ_self _ | (simp only [qq_nw1, qq_pt1]; omega)) (qq_nws)) (by have := hE80; first | exact this | omega) (by show _ ≠ _; have := hE80; omega) ) rfl kl_X7_56 ks_X7_add ki_X7 kc_X7_add kd_X7_add rfl (by decide) (by decide) (Nat.le_of_ble_eq_true rfl) (fun v hp' hv _ _ => ?_) (fun E hp' zx _ _ => zx.elim)
          obtain ⟨rfl, rfl⟩ := hv
          refine qq_hp ((qq_pno (by first | exact Nat.lt_succ_self _ | (simp only [qq_nw1, qq_pt1]; omega))).trans (congrArg (fun z => qq_nw z (.inl (0, 11, .inl (r_X7_divideA (4 * n9) f2)))) qq_pnw)) ?_
          show qq_Go _ (qq_nw (qq_nw hp (.inl (0, 11, .inl (r_X7_add (0 : Int32) (r_X7_divideA (4 * n9) f2) f1)))) (.inl (0, 11, .inl (r_X7_divideA (4 * n9) f2)))) 0 0 48 [(0, .int isB), (1, .ref hp.1), (2, .ref (hp.1 + 1)), (3, .int n9)] [] _ _
          refine qq_iinc (v := n9 + 1) (loc' := [(0, .int isB), (1, .ref hp.1), (2, .ref (hp.1 + 1)), (3, .int (n9 + 1))]) dX7_root_48 3 rfl rfl [1, 2, 3, 0] (Nat.le_of_ble_eq_true rfl) rfl ?_
          refine qq_goto (tgt := 12) dX7_root_51 (by decide) ?_
          have ze : lr_X7_root_12 isB (fu + 1) n9 f1 f2 = lr_X7_root_12 isB fu (n9 + 1) (r_X7_add (0 : Int32) (r_X7_divideA (4 * n9) f2) f1) (r_X7_divideA (4 * n9) f2) := by
            rw [lr_X7_root_12, if_pos zc1, if_neg zc2, if_neg zc3]
          rw [ze]
          exact lqih (n9 + 1) (r_X7_add (0 : Int32) (r_X7_divideA (4 * n9) f2) f1) (r_X7_divideA (4 * n9) f2) (qi_rn zn (by assumption)) (qi_rt zn (by assumption) zh)
        · refine qq_iconst (v := 1) dX7_root_40 (by decide) ?_
          refine qq_goto (tgt := 45) dX7_root_41 (by decide) ?_
          refine qq_callS (bc := 0) (bs := 0) (mc := 0) (ms := 0) (as := [.ref hp.1, .ref (hp.1 + 1), .int 1]) (rest := []) dX7_root_45 (mt_X7_add (qq_nw (qq_nw hp (.inl (0, 11, .inl f1))) (.inl (0, 11, .inl (r_X7_divideA (4 * n9) f2)))) (1 : Int32) (hp.1 + 1) hp.1 (r_X7_divideA (4 * n9) f2) f1 (qq_nws) (qq_nwo (by first | exact Nat.lt_succ_self _ | (simp only [qq_nw1, qq_pt1]; omega)) (qq_nws)) (by have := hE80; first | exact this | omega) (by show _ ≠ _; have := hE80; omega) ) rfl kl_X7_56 ks_X7_add ki_X7 kc_X7_add kd_X7_add rfl (by decide) (by decide) (Nat.le_of_ble_eq_true rfl) (fun v hp' hv _ _ => ?_) (fun E hp' zx _ _ => zx.elim)
          obtain ⟨rfl, rfl⟩ := hv
          refine qq_hp ((qq_pno (by first | exact Nat.lt_succ_self _ | (simp only [qq_nw1, qq_pt1]; omega))).trans (congrArg (fun z => qq_nw z (.inl (0, 11, .inl (r_X7_divideA (4 * n9) f2)))) qq_pnw)) ?_
          show qq_Go _ (qq_nw (qq_nw hp (.inl (0, 11, .inl (r_X7_add (1 : Int32) (r_X7_divideA (4 * n9) f2) f1)))) (.inl (0, 11, .inl (r_X7_divideA (4 * n9) f2)))) 0 0 48 [(0, .int isB), (1, .ref hp.1), (2, .ref (hp.1 + 1)), (3, .int n9)] [] _ _
          refine qq_iinc (v := n9 + 1) (loc' := [(0, .int isB), (1, .ref hp.1), (2, .ref (hp.1 + 1)), (3, .int (n9 + 1))]) dX7_root_48 3 rfl rfl [1, 2, 3, 0] (Nat.le_of_ble_eq_true rfl) rfl ?_
          refine qq_goto (tgt := 12) dX7_root_51 (by decide) ?_
          have ze : lr_X7_root_12 isB (fu + 1) n9 f1 f2 = lr_X7_root_12 isB fu (n9 + 1) (r_X7_add (1 : Int32) (r_X7_divideA (4 * n9) f2) f1) (r_X7_divideA (4 * n9) f2) := by
            rw [lr_X7_root_12, if_pos zc1, if_neg zc2, if_pos zc3]
          rw [ze]
          exact lqih (n9 + 1) (r_X7_add (1 : Int32) (r_X7_divideA (4 * n9) f2) f1) (r_X7_divideA (4 * n9) f2) (qi_rn zn (by assumption)) (qi_rt zn (by assumption) zh)
def r_X7_root (isB : Int32)  : (Nat → Int32) × (Nat → Int32) := lr_X7_root_12 isB (tv (r_X7_quarterOf (4 : Int32)) 0 11 + 1) (1 : Int32) (r_X7_quarterOf (4 : Int32) ) (r_X7_quarterOf (4 : Int32) )
set_option maxRecDepth 4000 in
theorem mt_X7_root (hp : qq_H) (isB : Int32)   (hE80 : 80 ≤ hp.1) : qq_Mt mX7_root [.int isB] hp 2 22 (fun v hp' => v = some (.ref hp.1) ∧ (qq_nw (qq_nw hp (.inl (0, 11, .inl ((r_X7_root isB).1)))) (.inl (0, 11, .inl ((r_X7_root isB).2)))) = hp') (fun _ _ => False) := by
  refine qq_met pn_X7 (Nat.le_of_ble_eq_true rfl) (Nat.le_of_ble_eq_true rfl) kc_X7_root ?_
  show qq_Go _ hp 2 22 0 [(0, .int isB)] [] _ _
  refine qq_iconst (v := 4) dX7_root_0 (by decide) ?_
  refine qq_callS (bc := 1) (bs := 11) (mc := 1) (ms := 11) (as := [.int 4]) (rest := []) dX7_root_1 (mt_X7_quarterOf hp (4 : Int32)   (by first | exact hE80 | (simp only [qq_nw1, qq_pt1]; omega)) ) rfl kl_X7_38 ks_X7_quarterOf ki_X7 kc_X7_quarterOf kd_X7_quarterOf rfl (by decide) (by decide) (Nat.le_of_ble_eq_true rfl) (fun v hp' hv _ _ => ?_) (fun E hp' zx _ _ => zx.elim)
  obtain ⟨rfl, rfl⟩ := hv
  show qq_Go _ (qq_nw hp (.inl (0, 11, .inl (r_X7_quarterOf (4 : Int32) )))) 1 11 4 [(0, .int isB)] [.ref hp.1] _ _
  refine qq_astore_n (loc' := [(0, .int isB), (1, .ref hp.1)]) dX7_root_4 rfl [1, 0] (Nat.le_of_ble_eq_true rfl) rfl ?_
  refine qq_iconst (v := 4) dX7_root_5 (by decide) ?_
  refine qq_callS (bc := 0) (bs := 0) (mc := 1) (ms := 11) (as := [.int 4]) (rest := []) dX7_root_6 (mt_X7_quarterOf (qq_nw hp (.inl (0, 11, .inl (r_X7_quarterOf (4 : Int32) )))) (4 : Int32)   (by first | exact hE80 | (simp only [qq_nw1, qq_pt1]; omega)) ) rfl kl_X7_38 ks_X7_quarterOf ki_X7 kc_X7_quarterOf kd_X7_quarterOf rfl (by decide) (by decide) (Nat.le_of_ble_eq_true rfl) (fun v hp' hv _ _ => ?_) (fun E hp' zx _ _ => zx.elim)
  obtain ⟨rfl, rfl⟩ := hv
  show qq_Go _ (qq_nw (qq_nw hp (.inl (0, 11, .inl (r_X7_quarterOf (4 : Int32) )))) (.inl (0, 11, .inl (r_X7_quarterOf (4 : Int32) )))) 0 0 9 [(0, .int isB), (1, .ref hp.1)] [.ref (hp.1 + 1)] _ _
  refine qq_astore_n (loc' := [(0, .int isB), (1, .ref hp.1), (2, .ref (hp.1 + 1))]) dX7_root_9 rfl [1, 2, 0] (Nat.le_of_ble_eq_true rfl) rfl ?_
  refine qq_iconst (v := 1) dX7_root_10 (by decide) ?_
  refine qq_istore_n (loc' := [(0, .int isB), (1, .ref hp.1), (2, .ref (hp.1 + 1)), (3, .int 1)]) dX7_root_11 rfl [1, 2, 3, 0] (Nat.le_of_ble_eq_true rfl) rfl ?_
  have ze : r_X7_root isB  = lr_X7_root_12 isB (tv (r_X7_quarterOf (4 : Int32)) 0 11 + 1) (1 : Int32) (r_X7_quarterOf (4 : Int32) ) (r_X7_quarterOf (4 : Int32) ) := by
    rw [r_X7_root]
  rw [ze]
  exact lq_X7_root_12 hp isB hE80 (tv (r_X7_quarterOf (4 : Int32)) 0 11 + 1) (1 : Int32) (r_X7_quarterOf (4 : Int32) ) (r_X7_quarterOf (4 : Int32) ) (qi_r0 _) (Nat.lt_succ_self _)
def lr_X7_ratioLog_33 (a9 : Int32) (b9 : Int32)  : Nat → Int32 → (Nat → Int32) → (Nat → Int32) → (Nat → Int32) → (Nat → Int32) × (Nat → Int32) × (Nat → Int32)
  | 0, _, f1, f2, f3 => (f1, f2, f3)
  | fu + 1, n9, f1, f2, f3 => if (r_X7_isNothing f1) = 0 then if 0 ≤ a9 then lr_X7_ratioLog_33 a9 b9 fu (n9 + 2) (r_X7_divideA (b9 * b9) (r_X7_multiply ((f_J9_abs_0f7a4 a9) * (f_J9_abs_0f7a4 a9)) f1)) (r_X7_divide n9 f1 f2) (r_X7_add (0 : Int32) (r_X7_divide n9 f1 f2) f3) else lr_X7_ratioLog_33 a9 b9 fu (n9 + 2) (r_X7_divideA (b9 * b9) (r_X7_multiply ((f_J9_abs_0f7a4 a9) * (f_J9_abs_0f7a4 a9)) f1)) (r_X7_divide n9 f1 f2) (r_X7_add (1 : Int32) (r_X7_divide n9 f1 f2) f3) else (f1, f2, r_X7_addA (0 : Int32) f3)
set_option maxRecDepth 4000 in
theorem lq_X7_ratioLog_33 (hp : qq_H) (a9 : Int32) (b9 : Int32)   (hE80 : 80 ≤ hp.1) (ha0 : 0 ≤ (f_J9_abs_0f7a4 a9).toInt) (hb0 : 0 < b9.toInt) (hb1 : b9.toInt ≤ 1000) (hab : 3 * (f_J9_abs_0f7a4 a9).toInt ≤ b9.toInt) : ∀ (fu : Nat) (n9 : Int32) (f1 : (Nat → Int32)) (f2 : (Nat → Int32)) (f3 : (Nat → Int32)), qi_rat n9 f1 → tv f1 0 11 < fu → qq_Go mX7_ratioLog (qq_nw (qq_nw (qq_nw hp (.inl (0, 11, .inl f1))) (.inl (0, 11, .inl f2))) (.inl (0, 11, .inl f3))) 0 0 33 [(0, .int a9), (1, .int b9), (2, .int (f_J9_abs_0f7a4 a9)), (3, .ref hp.1), (4, .ref (hp.1 + 1)), (5, .ref (hp.1 + 2)), (6, .int n9)] [] (fun v hp' => v = some (.ref (hp.1 + 2)) ∧ (qq_nw (qq_nw (qq_nw hp (.inl (0, 11, .inl ((lr_X7_ratioLog_33 a9 b9 fu n9 f1 f2 f3).1)))) (.inl (0, 11, .inl ((lr_X7_ratioLog_33 a9 b9 fu n9 f1 f2 f3).2.1)))) (.inl (0, 11, .inl ((lr_X7_ratioLog_33 a9 b9 fu n9 f1 f2 f3).2.2)))) = hp') (fun _ _ => False) := by
  intro fu
  induction fu with
  | zero =>
    intro _ _ _ _ _ zz
    exact absurd zz (Nat.not_lt_zero _)
  | succ fu lqih =>
    intro n9 f1 f2 f3 zn zh
    refine qq_aload_n dX7_ratioLog_33 rfl 3 rfl ?_
    refine qq_callS (bc := 0) (bs := 0) (mc := 0) (ms := 0) (as := [.ref hp.1]) (rest := []) dX7_ratioLog_34 (mt_X7_isNothing (qq_nw (qq_nw (qq_nw hp (.inl (0, 11, .inl f1))) (.inl (0, 11, .inl f2))) (.inl (0, 11, .inl f3)))  hp.1 f1 (qq_nwo (by first | exact Nat.lt_succ_self _ | (simp only [qq_nw1, qq_pt1]; omega)) (qq_nwo (by first | exact Nat.lt_succ_self _ | (simp only [qq_nw1, qq_pt1]; omega)) (qq_nws))) ) rfl kl_X7_60 ks_X7_isNothing ki_X7 kc_X7_isNothing kd_X7_isNothing rfl (by decide) (by decide) (Nat.le_of_ble_eq_true rfl) (fun v hp' hv _ _ => ?_) (fun E hp' zx _ _ => zx.elim)
    obtain ⟨rfl, rfl⟩ := hv
    show qq_Go _ (qq_nw (qq_nw (qq_nw hp (.inl (0, 11, .inl f1))) (.inl (0, 11, .inl f2))) (.inl (0, 11, .inl f3))) 0 0 37 [(0, .int a9), (1, .int b9), (2, .int (f_J9_abs_0f7a4 a9)), (3, .ref hp.1), (4, .ref (hp.1 + 1)), (5, .ref (hp.1 + 2)), (6, .int n9)] [.int (r_X7_isNothing f1)] _ _
    refine qq_if_ne (tgt := 85) dX7_ratioLog_37 (by decide) (fun zc1 => ?_) (fun zc1 => ?_)
    · refine qq_aload dX7_ratioLog_85 5 rfl ?_
      refine qq_aload dX7_ratioLog_87 5 rfl ?_
      refine qq_iconst (v := 0) dX7_ratioLog_89 (by decide) ?_
      refine qq_callS (bc := 0) (bs := 0) (mc := 0) (ms := 0) (as := [.ref (hp.1 + 2), .ref (hp.1 + 2), .int 0]) (rest := []) dX7_ratioLog_90 (mt_X7_addA (qq_nw (qq_nw (qq_nw hp (.inl (0, 11, .inl f1))) (.inl (0, 11, .inl f2))) (.inl (0, 11, .inl f3))) (0 : Int32) (hp.1 + 2) f3 (qq_nws) (by have := hE80; first | exact this | omega) ) rfl kl_X7_56 ks_X7_add ki_X7 kc_X7_add kd_X7_add rfl (by decide) (by decide) (Nat.le_of_ble_eq_true rfl) (fun v hp' hv _ _ => ?_) (fun E hp' zx _ _ => zx.elim)
      obtain ⟨rfl, rfl⟩ := hv
      refine qq_hp qq_pnw ?_
      show qq_Go _ (qq_nw (qq_nw (qq_nw hp (.inl (0, 11, .inl f1))) (.inl (0, 11, .inl f2))) (.inl (0, 11, .inl (r_X7_addA (0 : Int32) f3)))) 0 0 93 [(0, .int a9), (1, .int b9), (2, .int (f_J9_abs_0f7a4 a9)), (3, .ref hp.1), (4, .ref (hp.1 + 1)), (5, .ref (hp.1 + 2)), (6, .int n9)] [] _ _
      refine qq_aload dX7_ratioLog_93 5 rfl ?_
      have ze : lr_X7_ratioLog_33 a9 b9 (fu + 1) n9 f1 f2 f3 = (f1, f2, r_X7_addA (0 : Int32) f3) := by
        rw [lr_X7_ratioLog_33, if_neg zc1]
      exact qq_aret dX7_ratioLog_95 rfl (Or.inr ⟨_, rfl⟩) (Or.inr ⟨_, rfl⟩) ⟨rfl, by rw [ze]⟩
    · refine qq_aload_n dX7_ratioLog_40 rfl 3 rfl ?_
      refine qq_iload dX7_ratioLog_41 6 rfl ?_
      refine qq_aload dX7_ratioLog_43 4 rfl ?_
      refine qq_callS (bc := 0) (bs := 0) (mc := 0) (ms := 0) (as := [.ref hp.1, .int n9, .ref (hp.1 + 1)]) (rest := []) dX7_ratioLog_45 (mt_X7_divide (qq_nw (qq_nw (qq_nw hp (.inl (0, 11, .inl f1))) (.inl (0, 11, .inl f2))) (.inl (0, 11, .inl f3))) n9 hp.1 (hp.1 + 1) f1 f2 (qq_nwo (by first | exact Nat.lt_succ_self _ | (simp only [qq_nw1, qq_pt1]; omega)) (qq_nwo (by first | exact Nat.lt_succ_self _ | (simp only [qq_nw1, qq_pt1]; omega)) (qq_nws))) (qq_nwo (by first | exact Nat.lt_succ_self _ | (simp only [qq_nw1, qq_pt1]; omega)) (qq_nws)) (by have := hE80; first | exact this | omega) (by show _ ≠ _; have := hE80; omega) (by first | exact qi_64 hb0 | exact qi_64 zn.1 | exact qi_64 (qi_sp hb0 hb1))) rfl kl_X7_64 ks_X7_divide ki_X7 kc_X7_divide kd_X7_divide rfl (by decide) (by decide) (Nat.le_of_ble_eq_true rfl) (fun v hp' hv _ _ => ?_) (fun E hp' zx _ _ => zx.elim)
      obtain ⟨rfl, rfl⟩ := hv
      refine qq_hp ((qq_pno (by first | exact Nat.lt_succ_self _ | (simp only [qq_nw1, qq_pt1]; omega))).trans (congrArg (fun z => qq_nw z (.inl (0, 11, .inl f3))) qq_pnw)) ?_
      show qq_Go _ (qq_nw (qq_nw (qq_nw hp (.inl (0, 11, .inl f1))) (.inl (0, 11, .inl (r_X7_divide n9 f1 f2)))) (.inl (0, 11, .inl f3))) 0 0 48 [(0, .int a9), (1, .int b9), (2, .int (f_J9_abs_0f7a4 a9)), (3, .ref hp.1), (4, .ref (hp.1 + 1)), (5, .ref (hp.1 + 2)), (6, .int n9)] [] _ _
      refine qq_aload dX7_ratioLog_48 5 rfl ?_
      refine qq_aload dX7_ratioLog_50 4 rfl ?_
      refine qq_iload_n dX7_ratioLog_52 rfl 0 rfl ?_
      refine qq_if_ge (tgt := 60) dX7_ratioLog_53 (by decide) (fun zc2 => ?_) (fun zc2 => ?_)
      · refine qq_iconst (v := 0) dX7_ratioLog_60 (by decide) ?_
        refine qq_callS (bc := 0) (bs := 0) (mc := 0) (ms := 0) (as := [.ref (hp.1 + 2), .ref (hp.1 + 1), .int 0]) (rest := []) dX7_ratioLog_61 (mt_X7_add (qq_nw (qq_nw (qq_nw hp (.inl (0, 11, .inl f1))) (.inl (0, 11, .inl (r_X7_divide n9 f1 f2)))) (.inl (0, 11, .inl f3))) (0 : Int32) (hp.1 + 1) (hp.1 + 2) (r_X7_divide n9 f1 f2) f3 (qq_nwo (by first | exact Nat.lt_succ_self _ | (simp only [qq_nw1, qq_pt1]; omega)) (qq_nws)) (qq_nws) (by have := hE80; first | exact this | omega) (by show _ ≠ _; have := hE80; omega) ) rfl kl_X7_56 ks_X7_add ki_X7 kc_X7_add kd_X7_add rfl (by decide) (by decide) (Nat.le_of_ble_eq_true rfl) (fun v hp' hv _ _ => ?_) (fun E hp' zx _ _ => zx.elim)
        obtain ⟨rfl, rfl⟩ := hv
        refine qq_hp qq_pnw ?_
        show qq_Go _ (qq_nw (qq_nw (qq_nw hp (.inl (0, 11, .inl f1))) (.inl (0, 11, .inl (r_X7_divide n9 f1 f2)))) (.inl (0, 11, .inl (r_X7_add (0 : Int32) (r_X7_divide n9 f1 f2) f3)))) 0 0 64 [(0, .int a9), (1, .int b9), (2, .int (f_J9_abs_0f7a4 a9)), (3, .ref hp.1), (4, .ref (hp.1 + 1)), (5, .ref (hp.1 + 2)), (6, .int n9)] [] _ _
        refine qq_aload_n dX7_ratioLog_64 rfl 3 rfl ?_
        refine qq_iload_n dX7_ratioLog_65 rfl 2 rfl ?_
        refine qq_iload_n dX7_ratioLog_66 rfl 2 rfl ?_
        refine qq_imul dX7_ratioLog_67 ?_
        refine qq_callS (bc := 0) (bs := 0) (mc := 0) (ms := 0) (as := [.ref hp.1, .int ((f_J9_abs_0f7a4 a9) * (f_J9_abs_0f7a4 a9))]) (rest := []) dX7_ratioLog_68 (mt_X7_multiply (qq_nw (qq_nw (qq_nw hp (.inl (0, 11, .inl f1))) (.inl (0, 11, .inl (r_X7_divide n9 f1 f2)))) (.inl (0, 11, .inl (r_X7_add (0 : Int32) (r_X7_divide n9 f1 f2) f3)))) ((f_J9_abs_0f7a4 a9) * (f_J9_abs_0f7a4 a9)) hp.1 f1 (qq_nwo (by first | exact Nat.lt_succ_self _ | (simp only [qq_nw1, qq_pt1]; omega)) (qq_nwo (by first | exact Nat.lt_succ_self _ | (simp only [qq_nw1, qq_pt1]; omega)) (qq_nws))) (by have := hE80; first | exact this | omega) ) rfl kl_X7_74 ks_X7_multiply ki_X7 kc_X7_multiply kd_X7_multiply rfl (by decide) (by decide) (Nat.le_of_ble_eq_true rfl) (fun v hp' hv _ _ => ?_) (fun E hp' zx _ _ => zx.elim)
        obtain ⟨rfl, rfl⟩ := hv
        refine qq_hp ((qq_pno (by first | exact Nat.lt_succ_self _ | (simp only [qq_nw1, qq_pt1]; omega))).trans (congrArg (fun z => qq_nw z (.inl (0, 11, .inl (r_X7_add (0 : Int32) (r_X7_divide n9 f1 f2) f3)))) ((qq_pno (by first | exact Nat.lt_succ_self _ | (simp only [qq_nw1, qq_pt1]; omega))).trans (congrArg (fun z => qq_nw z (.inl (0, 11, .inl (r_X7_divide n9 f1 f2)))) qq_pnw)))) ?_
        show qq_Go _ (qq_nw (qq_nw (qq_nw hp (.inl (0, 11, .inl (r_X7_multiply ((f_J9_abs_0f7a4 a9) * (f_J9_abs_0f7a4 a9)) f1)))) (.inl (0, 11, .inl (r_X7_divide n9 f1 f2)))) (.inl (0, 11, .inl (r_X7_add (0 : Int32) (r_X7_divide n9 f1 f2) f3)))) 0 0 71 [(0, .int a9), (1, .int b9), (2, .int (f_J9_abs_0f7a4 a9)), (3, .ref hp.1), (4, .ref (hp.1 + 1)), (5, .ref (hp.1 + 2)), (6, .int n9)] [] _ _
        refine qq_aload_n dX7_ratioLog_71 rfl 3 rfl ?_
        refine qq_iload_n dX7_ratioLog_72 rfl 1 rfl ?_
        refine qq_iload_n dX7_ratioLog_73 rfl 1 rfl ?_
        refine qq_imul dX7_ratioLog_74 ?_
        refine qq_aload_n dX7_ratioLog_75 rfl 3 rfl ?_
        refine qq_callS (bc := 0) (bs := 0) (mc := 0) (ms := 0) (as := [.ref hp.1, .int (b9 * b9), .ref hp.1]) (rest := []) dX7_ratioLog_76 (mt_X7_divideA (qq_nw (qq_nw (qq_nw hp (.inl (0, 11, .inl (r_X7_multiply ((f_J9_abs_0f7a4 a9) * (f_J9_abs_0f7a4 a9)) f1)))) (.inl (0, 11, .inl (r_X7_divide n9 f1 f2)))) (.inl (0, 11, .inl (r_X7_add (0 : Int32) (r_X7_divide n9 f1 f2) f3)))) (b9 * b9) hp.1 (r_X7_multiply ((f_J9_abs_0f7a4 a9) * (f_J9_abs_0f7a4 a9)) f1) (qq_nwo (by first | exact Nat.lt_succ_self _ | (simp only [qq_nw1, qq_pt1]; omega)) (qq_nwo (by first | exact Nat.lt_succ_self _ | (simp only [qq_nw1, qq_pt1]; omega)) (qq_nws))) (by have := hE80; first | exact this | omega) (by first | exact qi_64 hb0 | exact qi_64 zn.1 | exact qi_64 (qi_sp hb0 hb1))) rfl kl_X7_64 ks_X7_divide ki_X7 kc_X7_divide kd_X7_divide rfl (by decide) (by decide) (Nat.le_of_ble_eq_true rfl) (fun v hp' hv _ _ => ?_) (fun E hp' zx _ _ => zx.elim)
        obtain ⟨rfl, rfl⟩ := hv
        refine qq_hp ((qq_pno (by first | exact Nat.lt_succ_self _ | (simp only [qq_nw1, qq_pt1]; omega))).trans (congrArg (fun z => qq_nw z (.inl (0, 11, .inl (r_X7_add (0 : Int32) (r_X7_divide n9 f1 f2) f3)))) ((qq_pno (by first | exact Nat.lt_succ_self _ | (simp only [qq_nw1, qq_pt1]; omega))).trans (congrArg (fun z => qq_nw z (.inl (0, 11, .inl (r_X7_divide n9 f1 f2)))) qq_pnw)))) ?_
        show qq_Go _ (qq_nw (qq_nw (qq_nw hp (.inl (0, 11, .inl (r_X7_divideA (b9 * b9) (r_X7_multiply ((f_J9_abs_0f7a4 a9) * (f_J9_abs_0f7a4 a9)) f1))))) (.inl (0, 11, .inl (r_X7_divide n9 f1 f2)))) (.inl (0, 11, .inl (r_X7_add (0 : Int32) (r_X7_divide n9 f1 f2) f3)))) 0 0 79 [(0, .int a9), (1, .int b9), (2, .int (f_J9_abs_0f7a4 a9)), (3, .ref hp.1), (4, .ref (hp.1 + 1)), (5, .ref (hp.1 + 2)), (6, .int n9)] [] _ _
        refine qq_iinc (v := n9 + 2) (loc' := [(0, .int a9), (1, .int b9), (2, .int (f_J9_abs_0f7a4 a9)), (3, .ref hp.1), (4, .ref (hp.1 + 1)), (5, .ref (hp.1 + 2)), (6, .int (n9 + 2))]) dX7_ratioLog_79 6 rfl rfl [1, 2, 3, 4, 5, 6, 0] (Nat.le_of_ble_eq_true rfl) rfl ?_
        refine qq_goto (tgt := 33) dX7_ratioLog_82 (by decide) ?_
        have ze : lr_X7_ratioLog_33 a9 b9 (fu + 1) n9 f1 f2 f3 = lr_X7_ratioLog_33 a9 b9 fu (n9 + 2) (r_X7_divideA (b9 * b9) (r_X7_multiply ((f_J9_abs_0f7a4 a9) * (f_J9_abs_0f7a4 a9)) f1)) (r_X7_divide n9 f1 f2) (r_X7_add (0 : Int32) (r_X7_divide n9 f1 f2) f3) := by
          rw [lr_X7_ratioLog_33, if_pos zc1, if_pos zc2]
        rw [ze]
        exact lqih (n9 + 2) (r_X7_divideA (b9 * b9) (r_X7_multiply ((f_J9_abs_0f7a4 a9) * (f_J9_abs_0f7a4 a9)) f1)) (r_X7_divide n9 f1 f2) (r_X7_add (0 : Int32) (r_X7_divide n9 f1 f2) f3) (qi_an ha0 hb0 hb1 hab zn (by assumption)) (qi_at ha0 hb0 hb1 hab (by assumption) zh)
      · refine qq_iconst (v := 1) dX7_ratioLog_56 (by decide) ?_
        refine qq_goto (tgt := 61) dX7_ratioLog_57 (by decide) ?_
        refine qq_callS (bc := 0) (bs := 0) (mc := 0) (ms := 0) (as := [.ref (hp.1 + 2), .ref (hp.1 + 1), .int 1]) (rest := []) dX7_ratioLog_61 (mt_X7_add (qq_nw (qq_nw (qq_nw hp (.inl (0, 11, .inl f1))) (.inl (0, 11, .inl (r_X7_divide n9 f1 f2)))) (.inl (0, 11, .inl f3))) (1 : Int32) (hp.1 + 1) (hp.1 + 2) (r_X7_divide n9 f1 f2) f3 (qq_nwo (by first | exact Nat.lt_succ_self _ | (simp only [qq_nw1, qq_pt1]; omega)) (qq_nws)) (qq_nws) (by have := hE80; first | exact this | omega) (by show _ ≠ _; have := hE80; omega) ) rfl kl_X7_56 ks_X7_add ki_X7 kc_X7_add kd_X7_add rfl (by decide) (by decide) (Nat.le_of_ble_eq_true rfl) (fun v hp' hv _ _ => ?_) (fun E hp' zx _ _ => zx.elim)
        obtain ⟨rfl, rfl⟩ := hv
        refine qq_hp qq_pnw ?_
        show qq_Go _ (qq_nw (qq_nw (qq_nw hp (.inl (0, 11, .inl f1))) (.inl (0, 11, .inl (r_X7_divide n9 f1 f2)))) (.inl (0, 11, .inl (r_X7_add (1 : Int32) (r_X7_divide n9 f1 f2) f3)))) 0 0 64 [(0, .int a9), (1, .int b9), (2, .int (f_J9_abs_0f7a4 a9)), (3, .ref hp.1), (4, .ref (hp.1 + 1)), (5, .ref (hp.1 + 2)), (6, .int n9)] [] _ _
        refine qq_aload_n dX7_ratioLog_64 rfl 3 rfl ?_
        refine qq_iload_n dX7_ratioLog_65 rfl 2 rfl ?_
        refine qq_iload_n dX7_ratioLog_66 rfl 2 rfl ?_
        refine qq_imul dX7_ratioLog_67 ?_
        refine qq_callS (bc := 0) (bs := 0) (mc := 0) (ms := 0) (as := [.ref hp.1, .int ((f_J9_abs_0f7a4 a9) * (f_J9_abs_0f7a4 a9))]) (rest := []) dX7_ratioLog_68 (mt_X7_multiply (qq_nw (qq_nw (qq_nw hp (.inl (0, 11, .inl f1))) (.inl (0, 11, .inl (r_X7_divide n9 f1 f2)))) (.inl (0, 11, .inl (r_X7_add (1 : Int32) (r_X7_divide n9 f1 f2) f3)))) ((f_J9_abs_0f7a4 a9) * (f_J9_abs_0f7a4 a9)) hp.1 f1 (qq_nwo (by first | exact Nat.lt_succ_self _ | (simp only [qq_nw1, qq_pt1]; omega)) (qq_nwo (by first | exact Nat.lt_succ_self _ | (simp only [qq_nw1, qq_pt1]; omega)) (qq_nws))) (by have := hE80; first | exact this | omega) ) rfl kl_X7_74 ks_X7_multiply ki_X7 kc_X7_multiply kd_X7_multiply rfl (by decide) (by decide) (Nat.le_of_ble_eq_true rfl) (fun v hp' hv _ _ => ?_) (fun E hp' zx _ _ => zx.elim)
        obtain ⟨rfl, rfl⟩ := hv
        refine qq_hp ((qq_pno (by first | exact Nat.lt_succ_self _ | (simp only [qq_nw1, qq_pt1]; omega))).trans (congrArg (fun z => qq_nw z (.inl (0, 11, .inl (r_X7_add (1 : Int32) (r_X7_divide n9 f1 f2) f3)))) ((qq_pno (by first | exact Nat.lt_succ_self _ | (simp only [qq_nw1, qq_pt1]; omega))).trans (congrArg (fun z => qq_nw z (.inl (0, 11, .inl (r_X7_divide n9 f1 f2)))) qq_pnw)))) ?_
        show qq_Go _ (qq_nw (qq_nw (qq_nw hp (.inl (0, 11, .inl (r_X7_multiply ((f_J9_abs_0f7a4 a9) * (f_J9_abs_0f7a4 a9)) f1)))) (.inl (0, 11, .inl (r_X7_divide n9 f1 f2)))) (.inl (0, 11, .inl (r_X7_add (1 : Int32) (r_X7_divide n9 f1 f2) f3)))) 0 0 71 [(0, .int a9), (1, .int b9), (2, .int (f_J9_abs_0f7a4 a9)), (3, .ref hp.1), (4, .ref (hp.1 + 1)), (5, .ref (hp.1 + 2)), (6, .int n9)] [] _ _
        refine qq_aload_n dX7_ratioLog_71 rfl 3 rfl ?_
        refine qq_iload_n dX7_ratioLog_72 rfl 1 rfl ?_
        refine qq_iload_n dX7_ratioLog_73 rfl 1 rfl ?_
        refine qq_imul dX7_ratioLog_74 ?_
        refine qq_aload_n dX7_ratioLog_75 rfl 3 rfl ?_
        refine qq_callS (bc := 0) (bs := 0) (mc := 0) (ms := 0) (as := [.ref hp.1, .int (b9 * b9), .ref hp.1]) (rest := []) dX7_ratioLog_76 (mt_X7_divideA (qq_nw (qq_nw (qq_nw hp (.inl (0, 11, .inl (r_X7_multiply ((f_J9_abs_0f7a4 a9) * (f_J9_abs_0f7a4 a9)) f1)))) (.inl (0, 11, .inl (r_X7_divide n9 f1 f2)))) (.inl (0, 11, .inl (r_X7_add (1 : Int32) (r_X7_divide n9 f1 f2) f3)))) (b9 * b9) hp.1 (r_X7_multiply ((f_J9_abs_0f7a4 a9) * (f_J9_abs_0f7a4 a9)) f1) (qq_nwo (by first | exact Nat.lt_succ_self _ | (simp only [qq_nw1, qq_pt1]; omega)) (qq_nwo (by first | exact Nat.lt_succ_self _ | (simp only [qq_nw1, qq_pt1]; omega)) (qq_nws))) (by have := hE80; first | exact this | omega) (by first | exact qi_64 hb0 | exact qi_64 zn.1 | exact qi_64 (qi_sp hb0 hb1))) rfl kl_X7_64 ks_X7_divide ki_X7 kc_X7_divide kd_X7_divide rfl (by decide) (by decide) (Nat.le_of_ble_eq_true rfl) (fun v hp' hv _ _ => ?_) (fun E hp' zx _ _ => zx.elim)
        obtain ⟨rfl, rfl⟩ := hv
        refine qq_hp ((qq_pno (by first | exact Nat.lt_succ_self _ | (simp only [qq_nw1, qq_pt1]; omega))).trans (congrArg (fun z => qq_nw z (.inl (0, 11, .inl (r_X7_add (1 : Int32) (r_X7_divide n9 f1 f2) f3)))) ((qq_pno (by first | exact Nat.lt_succ_self _ | (simp only [qq_nw1, qq_pt1]; omega))).trans (congrArg (fun z => qq_nw z (.inl (0, 11, .inl (r_X7_divide n9 f1 f2)))) qq_pnw)))) ?_
        show qq_Go _ (qq_nw (qq_nw (qq_nw hp (.inl (0, 11, .inl (r_X7_divideA (b9 * b9) (r_X7_multiply ((f_J9_abs_0f7a4 a9) * (f_J9_abs_0f7a4 a9)) f1))))) (.inl (0, 11, .inl (r_X7_divide n9 f1 f2)))) (.inl (0, 11, .inl (r_X7_add (1 : Int32) (r_X7_divide n9 f1 f2) f3)))) 0 0 79 [(0, .int a9), (1, .int b9), (2, .int (f_J9_abs_0f7a4 a9)), (3, .ref hp.1), (4, .ref (hp.1 + 1)), (5, .ref (hp.1 + 2)), (6, .int n9)] [] _ _
        refine qq_iinc (v := n9 + 2) (loc' := [(0, .int a9), (1, .int b9), (2, .int (f_J9_abs_0f7a4 a9)), (3, .ref hp.1), (4, .ref (hp.1 + 1)), (5, .ref (hp.1 + 2)), (6, .int (n9 + 2))]) dX7_ratioLog_79 6 rfl rfl [1, 2, 3, 4, 5, 6, 0] (Nat.le_of_ble_eq_true rfl) rfl ?_
        refine qq_goto (tgt := 33) dX7_ratioLog_82 (by decide) ?_
        have ze : lr_X7_ratioLog_33 a9 b9 (fu + 1) n9 f1 f2 f3 = lr_X7_ratioLog_33 a9 b9 fu (n9 + 2) (r_X7_divideA (b9 * b9) (r_X7_multiply ((f_J9_abs_0f7a4 a9) * (f_J9_abs_0f7a4 a9)) f1)) (r_X7_divide n9 f1 f2) (r_X7_add (1 : Int32) (r_X7_divide n9 f1 f2) f3) := by
          rw [lr_X7_ratioLog_33, if_pos zc1, if_neg zc2]
        rw [ze]
        exact lqih (n9 + 2) (r_X7_divideA (b9 * b9) (r_X7_multiply ((f_J9_abs_0f7a4 a9) * (f_J9_abs_0f7a4 a9)) f1)) (r_X7_divide n9 f1 f2) (r_X7_add (1 : Int32) (r_X7_divide n9 f1 f2) f3) (qi_an ha0 hb0 hb1 hab zn (by assumption)) (qi_at ha0 hb0 hb1 hab (by assumption) zh)
def r_X7_ratioLog (a9 : Int32) (b9 : Int32)  : (Nat → Int32) × (Nat → Int32) × (Nat → Int32) := lr_X7_ratioLog_33 a9 b9 (tv (r_X7_divideA b9 (r_X7_quarterOf (4 * (f_J9_abs_0f7a4 a9)))) 0 11 + 1) (1 : Int32) (r_X7_divideA b9 (r_X7_quarterOf (4 * (f_J9_abs_0f7a4 a9)) )) (fun _ => 0) (fun _ => 0)
set_option maxRecDepth 4000 in
theorem mt_X7_ratioLog (hp : qq_H) (a9 : Int32) (b9 : Int32)   (hE80 : 80 ≤ hp.1) (ha0 : 0 ≤ (f_J9_abs_0f7a4 a9).toInt) (hb0 : 0 < b9.toInt) (hb1 : b9.toInt ≤ 1000) (hab : 3 * (f_J9_abs_0f7a4 a9).toInt ≤ b9.toInt) : qq_Mt mX7_ratioLog [.int a9, .int b9] hp 3 33 (fun v hp' => v = some (.ref (hp.1 + 2)) ∧ (qq_nw (qq_nw (qq_nw hp (.inl (0, 11, .inl ((r_X7_ratioLog a9 b9).1)))) (.inl (0, 11, .inl ((r_X7_ratioLog a9 b9).2.1)))) (.inl (0, 11, .inl ((r_X7_ratioLog a9 b9).2.2)))) = hp') (fun _ _ => False) := by
  refine qq_met pn_X7 (Nat.le_of_ble_eq_true rfl) (Nat.le_of_ble_eq_true rfl) kc_X7_ratioLog ?_
  show qq_Go _ hp 3 33 0 [(0, .int a9), (1, .int b9)] [] _ _
  refine qq_iload_n dX7_ratioLog_0 rfl 0 rfl ?_
  refine qq_callS (bc := 3) (bs := 33) (mc := 0) (ms := 0) (as := [.int a9]) (rest := []) dX7_ratioLog_1 (mt_J9_abs_0f7a4 hp a9) rfl kl_X7_68 ks_J9_abs_0f7a4 ki_J9 kc_J9_abs_0f7a4 kd_J9_abs_0f7a4 rfl (by decide) (by decide) (Nat.le_of_ble_eq_true rfl) (fun v hp' hv _ _ => ?_) (fun E hp' zx _ _ => zx.elim)
  obtain ⟨rfl, rfl⟩ := hv
  show qq_Go _ hp 3 33 4 [(0, .int a9), (1, .int b9)] [.int (f_J9_abs_0f7a4 a9)] _ _
  refine qq_istore_n (loc' := [(0, .int a9), (1, .int b9), (2, .int (f_J9_abs_0f7a4 a9))]) dX7_ratioLog_4 rfl [1, 2, 0] (Nat.le_of_ble_eq_true rfl) rfl ?_
  refine qq_iconst (v := 4) dX7_ratioLog_5 (by decide) ?_
  refine qq_iload_n dX7_ratioLog_6 rfl 2 rfl ?_
  refine qq_imul dX7_ratioLog_7 ?_
  refine qq_callS (bc := 2) (bs := 22) (mc := 1) (ms := 11) (as := [.int (4 * (f_J9_abs_0f7a4 a9))]) (rest := []) dX7_ratioLog_8 (mt_X7_quarterOf hp (4 * (f_J9_abs_0f7a4 a9))   (by first | exact hE80 | (simp only [qq_nw1, qq_pt1]; omega)) ) rfl kl_X7_38 ks_X7_quarterOf ki_X7 kc_X7_quarterOf kd_X7_quarterOf rfl (by decide) (by decide) (Nat.le_of_ble_eq_true rfl) (fun v hp' hv _ _ => ?_) (fun E hp' zx _ _ => zx.elim)
  obtain ⟨rfl, rfl⟩ := hv
  show qq_Go _ (qq_nw hp (.inl (0, 11, .inl (r_X7_quarterOf (4 * (f_J9_abs_0f7a4 a9)) )))) 2 22 11 [(0, .int a9), (1, .int b9), (2, .int (f_J9_abs_0f7a4 a9))] [.ref hp.1] _ _
  refine qq_astore_n (loc' := [(0, .int a9), (1, .int b9), (2, .int (f_J9_abs_0f7a4 a9)), (3, .ref hp.1)]) dX7_ratioLog_11 rfl [1, 2, 3, 0] (Nat.le_of_ble_eq_true rfl) rfl ?_
  refine qq_bipush (v := 11) dX7_ratioLog_12 (by decide) ?_
  refine qq_newI (bc := 1) (bs := 11) (N' := 11) (ms := 11) dX7_ratioLog_14 (by decide) rfl (Nat.le_of_ble_eq_true rfl) (Nat.le_refl _) ?_ ka_int
  show qq_Go _ (qq_nw (qq_nw hp (.inl (0, 11, .inl (r_X7_quarterOf (4 * (f_J9_abs_0f7a4 a9)) )))) (.inl (0, 11, .inl (fun _ => 0)))) 1 11 16 [(0, .int a9), (1, .int b9), (2, .int (f_J9_abs_0f7a4 a9)), (3, .ref hp.1)] [.ref (hp.1 + 1)] _ _
  refine qq_astore (loc' := [(0, .int a9), (1, .int b9), (2, .int (f_J9_abs_0f7a4 a9)), (3, .ref hp.1), (4, .ref (hp.1 + 1))]) dX7_ratioLog_16 [1, 2, 3, 4, 0] (Nat.le_of_ble_eq_true rfl) rfl ?_
  refine qq_bipush (v := 11) dX7_ratioLog_18 (by decide) ?_
  refine qq_newI (bc := 0) (bs := 0) (N' := 11) (ms := 11) dX7_ratioLog_20 (by decide) rfl (Nat.le_of_ble_eq_true rfl) (Nat.le_refl _) ?_ ka_int
  show qq_Go _ (qq_nw (qq_nw (qq_nw hp (.inl (0, 11, .inl (r_X7_quarterOf (4 * (f_J9_abs_0f7a4 a9)) )))) (.inl (0, 11, .inl (fun _ => 0)))) (.inl (0, 11, .inl (fun _ => 0)))) 0 0 22 [(0, .int a9), (1, .int b9), (2, .int (f_J9_abs_0f7a4 a9)), (3, .ref hp.1), (4, .ref (hp.1 + 1))] [.ref (hp.1 + 2)] _ _
  refine qq_astore (loc' := [(0, .int a9), (1, .int b9), (2, .int (f_J9_abs_0f7a4 a9)), (3, .ref hp.1), (4, .ref (hp.1 + 1)), (5, .ref (hp.1 + 2))]) dX7_ratioLog_22 [1, 2, 3, 4, 5, 0] (Nat.le_of_ble_eq_true rfl) rfl ?_
  refine qq_aload_n dX7_ratioLog_24 rfl 3 rfl ?_
  refine qq_iload_n dX7_ratioLog_25 rfl 1 rfl ?_
  refine qq_aload_n dX7_ratioLog_26 rfl 3 rfl ?_
  refine qq_callS (bc := 0) (bs := 0) (mc := 0) (ms := 0) (as := [.ref hp.1, .int b9, .ref hp.1]) (rest := []) dX7_ratioLog_27 (mt_X7_divideA (qq_nw (qq_nw (qq_nw hp (.inl (0, 11, .inl (r_X7_quarterOf (4 * (f_J9_abs_0f7a4 a9)) )))) (.inl (0, 11, .inl (fun _ => 0)))) (.inl (0, 11, .inl (fun _ => 0)))) b9 hp.1 (r_X7_quarterOf (4 * (f_J9_abs_0f7a4 a9)) ) (qq_nwo (by first | exact Nat.lt_succ_self _ | (simp only [qq_nw1, qq_pt1]; omega)) (qq_nwo (by first | exact Nat.lt_succ_self _ | (simp only [qq_nw1, qq_pt1]; omega)) (qq_nws))) (by have := hE80; first | exact this | omega) (by first | exact qi_64 hb0 | exact qi_64 zn.1 | exact qi_64 (qi_sp hb0 hb1))) rfl kl_X7_64 ks_X7_divide ki_X7 kc_X7_divide kd_X7_divide rfl (by decide) (by decide) (Nat.le_of_ble_eq_true rfl) (fun v hp' hv _ _ => ?_) (fun E hp' zx _ _ => zx.elim)
  obtain ⟨rfl, rfl⟩ := hv
  refine qq_hp ((qq_pno (by first | exact Nat.lt_succ_self _ | (simp only [qq_nw1, qq_pt1]; omega))).trans (congrArg (fun z => qq_nw z (.inl (0, 11, .inl (fun _ => 0)))) ((qq_pno (by first | exact Nat.lt_succ_self _ | (simp only [qq_nw1, qq_pt1]; omega))).trans (congrArg (fun z => qq_nw z (.inl (0, 11, .inl (fun _ => 0)))) qq_pnw)))) ?_
  show qq_Go _ (qq_nw (qq_nw (qq_nw hp (.inl (0, 11, .inl (r_X7_divideA b9 (r_X7_quarterOf (4 * (f_J9_abs_0f7a4 a9)) ))))) (.inl (0, 11, .inl (fun _ => 0)))) (.inl (0, 11, .inl (fun _ => 0)))) 0 0 30 [(0, .int a9), (1, .int b9), (2, .int (f_J9_abs_0f7a4 a9)), (3, .ref hp.1), (4, .ref (hp.1 + 1)), (5, .ref (hp.1 + 2))] [] _ _
  refine qq_iconst (v := 1) dX7_ratioLog_30 (by decide) ?_
  refine qq_istore (loc' := [(0, .int a9), (1, .int b9), (2, .int (f_J9_abs_0f7a4 a9)), (3, .ref hp.1), (4, .ref (hp.1 + 1)), (5, .ref (hp.1 + 2)), (6, .int 1)]) dX7_ratioLog_31 [1, 2, 3, 4, 5, 6, 0] (Nat.le_of_ble_eq_true rfl) rfl ?_
  have ze : r_X7_ratioLog a9 b9  = lr_X7_ratioLog_33 a9 b9 (tv (r_X7_divideA b9 (r_X7_quarterOf (4 * (f_J9_abs_0f7a4 a9)))) 0 11 + 1) (1 : Int32) (r_X7_divideA b9 (r_X7_quarterOf (4 * (f_J9_abs_0f7a4 a9)) )) (fun _ => 0) (fun _ => 0) := by
    rw [r_X7_ratioLog]
  rw [ze]
  exact lq_X7_ratioLog_33 hp a9 b9 hE80 ha0 hb0 hb1 hab (tv (r_X7_divideA b9 (r_X7_quarterOf (4 * (f_J9_abs_0f7a4 a9)))) 0 11 + 1) (1 : Int32) (r_X7_divideA b9 (r_X7_quarterOf (4 * (f_J9_abs_0f7a4 a9)) )) (fun _ => 0) (fun _ => 0) (qi_a0 _) (Nat.lt_succ_self _)