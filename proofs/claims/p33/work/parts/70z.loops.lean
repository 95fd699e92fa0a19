def r_X5_power (cell : Int32) (into : Int32) (S : sX) : Int32 × sX := ((r_X5_bringChanged (1 : Int32) cell into S).1, (r_X5_bringChanged (1 : Int32) cell into S).2)
set_option maxRecDepth 4000 in
theorem mt_X5_power (hp : qq_H) (S : sX) (hS : cs_X S hp) (cell : Int32) (into : Int32)  : qq_Mt mX5_power [.ref 80, .int cell, .int into] hp 2 12 (fun v hp' => v = some (.int ((r_X5_power cell into S).1)) ∧ cs_X ((r_X5_power cell into S).2) hp' ∧ sm_X hp hp' ∧ (¬ cell < 0 ∧ ¬ 8 ≤ cell) ∧ (¬ into < 0 ∧ ¬ 8 ≤ into)) (fun E hp' => hp = hp' ∧ ((E = "java/lang/IndexOutOfBoundsException" ∧ (cell < 0 ∨ 8 ≤ cell)) ∨ (E = "java/lang/IndexOutOfBoundsException" ∧ (¬ cell < 0 ∧ ¬ 8 ≤ cell) ∧ (into < 0 ∨ 8 ≤ into)))) := by
  refine qq_met pn_X5 (Nat.le_of_ble_eq_true rfl) (Nat.le_of_ble_eq_true rfl) kc_X5_power ?_
  show qq_Go _ hp 2 12 0 [(0, .ref 80), (1, .int cell), (2, .int into)] [] _ _
  refine qq_aload_n dX5_power_0 rfl 0 rfl ?_
  refine qq_iconst (v := 1) dX5_power_1 (by decide) ?_
  refine qq_iload_n dX5_power_2 rfl 1 rfl ?_
  refine qq_iload_n dX5_power_3 rfl 2 rfl ?_
  refine qq_callV (bc := 0) (bs := 0) (mc := 2) (ms := 12) (o := 80) (ci := 2) (N := 6) (T := TX5) (as := [.int 1, .int cell, .int into]) (rest := []) dX5_power_4 hS.2.2.1 (by decide) rfl (mt_X5_bringChanged hp S hS (1 : Int32) cell into ) rfl kl_X5_83 kn_X5_bringChanged ke_X5_bringChanged ki_X5 kc_X5_bringChanged kd_X5_bringChanged rfl (by decide) (by decide) (Nat.le_of_ble_eq_true rfl) (fun v hp1 hv _ _ => ?_) (fun E hp' zx _ _ => qq_thr rfl zx)
  obtain ⟨rfl, hS1, sM1, zg1, zg2⟩ := hv
  have zg11 := zg1.1
  have zg12 := zg1.2
  have zg21 := zg2.1
  have zg22 := zg2.2
  show qq_Go _ hp1 0 0 7 [(0, .ref 80), (1, .int cell), (2, .int into)] [.int ((r_X5_bringChanged (1 : Int32) cell into S).1)] _ _
  have ze : r_X5_power cell into S = ((r_X5_bringChanged (1 : Int32) cell into S).1, (r_X5_bringChanged (1 : Int32) cell into S).2) := by
    rw [r_X5_power]
  exact qq_iret dX5_power_7 rfl rfl ⟨by rw [ze], by rw [ze]; exact hS1, sM1, zg1, zg2⟩
def r_X5_lessen (cell : Int32) (into : Int32) (S : sX) : Int32 × sX := ((r_X5_bringChanged (2 : Int32) cell into S).1, (r_X5_bringChanged (2 : Int32) cell into S).2)
set_option maxRecDepth 4000 in
theorem mt_X5_lessen (hp : qq_H) (S : sX) (hS : cs_X S hp) (cell : Int32) (into : Int32)  : qq_Mt mX5_lessen [.ref 80, .int cell, .int into] hp 2 12 (fun v hp' => v = some (.int ((r_X5_lessen cell into S).1)) ∧ cs_X ((r_X5_lessen cell into S).2) hp' ∧ sm_X hp hp' ∧ (¬ cell < 0 ∧ ¬ 8 ≤ cell) ∧ (¬ into < 0 ∧ ¬ 8 ≤ into)) (fun E hp' => hp = hp' ∧ ((E = "java/lang/IndexOutOfBoundsException" ∧ (cell < 0 ∨ 8 ≤ cell)) ∨ (E = "java/lang/IndexOutOfBoundsException" ∧ (¬ cell < 0 ∧ ¬ 8 ≤ cell) ∧ (into < 0 ∨ 8 ≤ into)))) := by
  refine qq_met pn_X5 (Nat.le_of_ble_eq_true rfl) (Nat.le_of_ble_eq_true rfl) kc_X5_lessen ?_
  show qq_Go _ hp 2 12 0 [(0, .ref 80), (1, .int cell), (2, .int into)] [] _ _
  refine qq_aload_n dX5_lessen_0 rfl 0 rfl ?_
  refine qq_iconst (v := 2) dX5_lessen_1 (by decide) ?_
  refine qq_iload_n dX5_lessen_2 rfl 1 rfl ?_
  refine qq_iload_n dX5_lessen_3 rfl 2 rfl ?_
  refine qq_callV (bc := 0) (bs := 0) (mc := 2) (ms := 12) (o := 80) (ci := 2) (N := 6) (T := TX5) (as := [.int 2, .int cell, .int into]) (rest := []) dX5_lessen_4 hS.2.2.1 (by decide) rfl (mt_X5_bringChanged hp S hS (2 : Int32) cell into ) rfl kl_X5_83 kn_X5_bringChanged ke_X5_bringChanged ki_X5 kc_X5_bringChanged kd_X5_bringChanged rfl (by decide) (by decide) (Nat.le_of_ble_eq_true rfl) (fun v hp1 hv _ _ => ?_) (fun E hp' zx _ _ => qq_thr rfl zx)
  obtain ⟨rfl, hS1, sM1, zg1, zg2⟩ := hv
  have zg11 := zg1.1
  have zg12 := zg1.2
  have zg21 := zg2.1
  have zg22 := zg2.2
  show qq_Go _ hp1 0 0 7 [(0, .ref 80), (1, .int cell), (2, .int into)] [.int ((r_X5_bringChanged (2 : Int32) cell into S).1)] _ _
  have ze : r_X5_lessen cell into S = ((r_X5_bringChanged (2 : Int32) cell into S).1, (r_X5_bringChanged (2 : Int32) cell into S).2) := by
    rw [r_X5_lessen]
  exact qq_iret dX5_lessen_7 rfl rfl ⟨by rw [ze], by rw [ze]; exact hS1, sM1, zg1, zg2⟩
def r_X5_log (cell : Int32) (into : Int32) (S : sX) : Int32 × sX := ((r_X5_bringChanged (3 : Int32) cell into S).1, (r_X5_bringChanged (3 : Int32) cell into S).2)
set_option maxRecDepth 4000 in
theorem mt_X5_log (hp : qq_H) (S : sX) (hS : cs_X S hp) (cell : Int32) (into : Int32)  : qq_Mt mX5_log [.ref 80, .int cell, .int into] hp 2 12 (fun v hp' => v = some (.int ((r_X5_log cell into S).1)) ∧ cs_X ((r_X5_log cell into S).2) hp' ∧ sm_X hp hp' ∧ (¬ cell < 0 ∧ ¬ 8 ≤ cell) ∧ (¬ into < 0 ∧ ¬ 8 ≤ into)) (fun E hp' => hp = hp' ∧ ((E = "java/lang/IndexOutOfBoundsException" ∧ (cell < 0 ∨ 8 ≤ cell)) ∨ (E = "java/lang/IndexOutOfBoundsException" ∧ (¬ cell < 0 ∧ ¬ 8 ≤ cell) ∧ (into < 0 ∨ 8 ≤ into)))) := by
  refine qq_met pn_X5 (Nat.le_of_ble_eq_true rfl) (Nat.le_of_ble_eq_true rfl) kc_X5_log ?_
  show qq_Go _ hp 2 12 0 [(0, .ref 80), (1, .int cell), (2, .int into)] [] _ _
  refine qq_aload_n dX5_log_0 rfl 0 rfl ?_
  refine qq_iconst (v := 3) dX5_log_1 (by decide) ?_
  refine qq_iload_n dX5_log_2 rfl 1 rfl ?_
  refine qq_iload_n dX5_log_3 rfl 2 rfl ?_
  refine qq_callV (bc := 0) (bs := 0) (mc := 2) (ms := 12) (o := 80) (ci := 2) (N := 6) (T := TX5) (as := [.int 3, .int cell, .int into]) (rest := []) dX5_log_4 hS.2.2.1 (by decide) rfl (mt_X5_bringChanged hp S hS (3 : Int32) cell into ) rfl kl_X5_83 kn_X5_bringChanged ke_X5_bringChanged ki_X5 kc_X5_bringChanged kd_X5_bringChanged rfl (by decide) (by decide) (Nat.le_of_ble_eq_true rfl) (fun v hp1 hv _ _ => ?_) (fun E hp' zx _ _ => qq_thr rfl zx)
  obtain ⟨rfl, hS1, sM1, zg1, zg2⟩ := hv
  have zg11 := zg1.1
  have zg12 := zg1.2
  have zg21 := zg2.1
  have zg22 := zg2.2
  show qq_Go _ hp1 0 0 7 [(0, .ref 80), (1, .int cell), (2, .int into)] [.int ((r_X5_bringChanged (3 : Int32) cell into S).1)] _ _
  have ze : r_X5_log cell into S = ((r_X5_bringChanged (3 : Int32) cell into S).1, (r_X5_bringChanged (3 : Int32) cell into S).2) := by
    rw [r_X5_log]
  exact qq_iret dX5_log_7 rfl rfl ⟨by rw [ze], by rw [ze]; exact hS1, sM1, zg1, zg2⟩
def lr_X5_remember_2  : Nat → Int32 → sX → sX
  | 0, _, S => S
  | fu + 1, i, S => if 8 ≤ i then S else lr_X5_remember_2 fu (i + 1) (S.1, S.2.1, upd S.2.2.1 i.toNatClampNeg (S.1 i.toNatClampNeg), S.2.2.2.1, S.2.2.2.2.1, S.2.2.2.2.2)
set_option maxRecDepth 4000 in
theorem lq_X5_remember_2    : ∀ (fu : Nat) (i : Int32) (hp : qq_H) (S : sX), cs_X S hp → ¬ i < 0 → ((8 : Int32).toInt - i.toInt).toNat < fu → qq_Go mX5_remember hp 0 0 2 [(0, .ref 80), (1, .int i)] [] (fun v hp' => v = none ∧ cs_X (lr_X5_remember_2 fu i S) hp' ∧ sm_X hp hp') (fun _ _ => False)
  | 0, _, hp, _, _, _, zz => absurd zz (Nat.not_lt_zero _)
  | fu + 1, i, hp, S, hS, zp, zh => by
    refine qq_iload_n dX5_remember_2 rfl 1 rfl ?_
    refine qq_bipush (v := 8) dX5_remember_3 (by decide) ?_
    refine qq_icmp_ge (tgt := 26) dX5_remember_5 (by decide) (fun zc1 => ?_) (fun zc1 => ?_)
    · have ze : lr_X5_remember_2 (fu + 1) i S = S := by
        rw [lr_X5_remember_2, if_pos zc1]
      exact qq_vret dX5_remember_26 rfl ⟨rfl, by rw [ze]; exact hS, sm_r _⟩
    · refine qq_aload_n dX5_remember_8 rfl 0 rfl ?_
      refine cx_get hS dX5_remember_9 2 (by decide) rfl kl_X5_17 ?_
      refine qq_iload_n dX5_remember_12 rfl 1 rfl ?_
      refine qq_aload_n dX5_remember_13 rfl 0 rfl ?_
      refine cx_get hS dX5_remember_14 0 (by decide) rfl kl_X5_9 ?_
      refine qq_iload_n dX5_remember_17 rfl 1 rfl ?_
      refine qq_iald dX5_remember_18 hS.2.2.2.1 (by first | assumption | exact qm_in8 (by assumption) (by assumption) | exact qm_in8d (by assumption) (by assumption) | decide) ?_
      refine cx_st83 hS dX5_remember_19 (by first | assumption | exact qm_in8 (by assumption) (by assumption) | exact qm_in8d (by assumption) (by assumption) | decide) (fun hp1 hS1 sM1 => ?_)
      replace hS1 : cs_X (S.1, S.2.1, upd S.2.2.1 i.toNatClampNeg (S.1 i.toNatClampNeg), S.2.2.2.1, S.2.2.2.2.1, S.2.2.2.2.2) hp1 := hS1
      refine qq_iinc (v := i + 1) (loc' := [(0, .ref 80), (1, .int (i + 1))]) dX5_remember_20 1 rfl rfl [1, 0] (Nat.le_of_ble_eq_true rfl) rfl ?_
      refine qq_goto (tgt := 2) dX5_remember_23 (by decide) ?_
      have ze : lr_X5_remember_2 (fu + 1) i S = lr_X5_remember_2 fu (i + 1) (S.1, S.2.1, upd S.2.2.1 i.toNatClampNeg (S.1 i.toNatClampNeg), S.2.2.2.1, S.2.2.2.2.1, S.2.2.2.2.2) := by
        rw [lr_X5_remember_2, if_neg zc1]
      rw [ze]
      have zk := lq_X5_remember_2  fu (i + 1) hp1 (S.1, S.2.1, upd S.2.2.1 i.toNatClampNeg (S.1 i.toNatClampNeg), S.2.2.2.1, S.2.2.2.2.1, S.2.2.2.2.2) hS1 (qm_pos zp (by assumption)) (qm_up (by assumption) zh)
      exact qq_post (fun v hq z => ⟨z.1, z.2.1, sm_t sM1 z.2.2⟩) (fun _ _ z => z.elim) zk
def r_X5_remember  (S : sX) : sX := lr_X5_remember_2 9 (0 : Int32) S
set_option maxRecDepth 4000 in
theorem mt_X5_remember (hp : qq_H) (S : sX) (hS : cs_X S hp)   : qq_Mt mX5_remember [.ref 80] hp 0 0 (fun v hp' => v = none ∧ cs_X (r_X5_remember S) hp' ∧ sm_X hp hp') (fun _ _ => False) := by
  refine qq_met pn_X5 (Nat.le_of_ble_eq_true rfl) (Nat.le_of_ble_eq_true rfl) kc_X5_remember ?_
  show qq_Go _ hp 0 0 0 [(0, .ref 80)] [] _ _
  refine qq_iconst (v := 0) dX5_remember_0 (by decide) ?_
  refine qq_istore_n (loc' := [(0, .ref 80), (1, .int 0)]) dX5_remember_1 rfl [1, 0] (Nat.le_of_ble_eq_true rfl) rfl ?_
  have ze : r_X5_remember S = lr_X5_remember_2 9 (0 : Int32) S := by
    rw [r_X5_remember]
  rw [ze]
  exact lq_X5_remember_2  9 (0 : Int32) hp S hS (by decide) (by decide)
def lr_X5_changedCells_4  : Nat → Int32 → Int32 → sX → Int32
  | 0, _, _, _ => 0
  | fu + 1, n, i, S => if 8 ≤ i then n else if (S.1 i.toNatClampNeg) = (S.2.2.1 i.toNatClampNeg) then lr_X5_changedCells_4 fu n (i + 1) S else lr_X5_changedCells_4 fu (n + 1) (i + 1) S
set_option maxRecDepth 4000 in
theorem lq_X5_changedCells_4    : ∀ (fu : Nat) (n : Int32) (i : Int32) (hp : qq_H) (S : sX), cs_X S hp → ¬ i < 0 → ((8 : Int32).toInt - i.toInt).toNat < fu → qq_Go mX5_changedCells hp 0 0 4 [(0, .ref 80), (1, .int n), (2, .int i)] [] (fun v hp' => v = some (.int (lr_X5_changedCells_4 fu n i S)) ∧ hp = hp') (fun _ _ => False)
  | 0, _, _, hp, _, _, _, zz => absurd zz (Nat.not_lt_zero _)
  | fu + 1, n, i, hp, S, hS, zp, zh => by
    refine qq_iload_n dX5_changedCells_4 rfl 2 rfl ?_
    refine qq_bipush (v := 8) dX5_changedCells_5 (by decide) ?_
    refine qq_icmp_ge (tgt := 34) dX5_changedCells_7 (by decide) (fun zc1 => ?_) (fun zc1 => ?_)
    · refine qq_iload_n dX5_changedCells_34 rfl 1 rfl ?_
      have ze : lr_X5_changedCells_4 (fu + 1) n i S = n := by
        rw [lr_X5_changedCells_4, if_pos zc1]
      exact qq_iret dX5_changedCells_35 rfl rfl ⟨by rw [ze], rfl⟩
    · refine qq_aload_n dX5_changedCells_10 rfl 0 rfl ?_
      refine cx_get hS dX5_changedCells_11 0 (by decide) rfl kl_X5_9 ?_
      refine qq_iload_n dX5_changedCells_14 rfl 2 rfl ?_
      refine qq_iald dX5_changedCells_15 hS.2.2.2.1 (by first | assumption | exact qm_in8 (by assumption) (by assumption) | exact qm_in8d (by assumption) (by assumption) | decide) ?_
      refine qq_aload_n dX5_changedCells_16 rfl 0 rfl ?_
      refine cx_get hS dX5_changedCells_17 2 (by decide) rfl kl_X5_17 ?_
      refine qq_iload_n dX5_changedCells_20 rfl 2 rfl ?_
      refine qq_iald dX5_changedCells_21 hS.2.2.2.2.2 (by first | assumption | exact qm_in8 (by assumption) (by assumption) | exact qm_in8d (by assumption) (by assumption) | decide) ?_
      refine qq_icmp_eq (tgt := 28) dX5_changedCells_22 (by decide) (fun zc2 => ?_) (fun zc2 => ?_)
      · refine qq_iinc (v := i + 1) (loc' := [(0, .ref 80), (1, .int n), (2, .int (i + 1))]) dX5_changedCells_28 2 rfl rfl [1, 2, 0] (Nat.le_of_ble_eq_true rfl) rfl ?_
        refine qq_goto (tgt := 4) dX5_changedCells_31 (by decide) ?_
        have ze : lr_X5_changedCells_4 (fu + 1) n i S = lr_X5_changedCells_4 fu n (i + 1) S := by
          rw [lr_X5_changedCells_4, if_neg zc1, if_pos zc2]
        rw [ze]
        exact lq_X5_changedCells_4  fu n (i + 1) hp S hS (qm_pos zp (by assumption)) (qm_up (by assumption) zh)
      · refine qq_iinc (v := n + 1) (loc' := [(0, .ref 80), (1, .int (n + 1)), (2, .int i)]) dX5_changedCells_25 1 rfl rfl [1, 0, 2] (Nat.le_of_ble_eq_true rfl) rfl ?_
        refine qq_iinc (v := i + 1) (loc' := [(0, .ref 80), (1, .int (n + 1)), (2, .int (i + 1))]) dX5_changedCells_28 2 rfl rfl [1, 2, 0] (Nat.le_of_ble_eq_true rfl) rfl ?_
        refine qq_goto (tgt := 4) dX5_changedCells_31 (by decide) ?_
        have ze : lr_X5_changedCells_4 (fu + 1) n i S = lr_X5_changedCells_4 fu (n + 1) (i + 1) S := by
          rw [lr_X5_changedCells_4, if_neg zc1, if_neg zc2]
        rw [ze]
        exact lq_X5_changedCells_4  fu (n + 1) (i + 1) hp S hS (qm_pos zp (by assumption)) (qm_up (by assumption) zh)
def r_X5_changedCells  (S : sX) : Int32 := lr_X5_changedCells_4 9 (0 : Int32) (0 : Int32) S
set_option maxRecDepth 4000 in
theorem mt_X5_changedCells (hp : qq_H) (S : sX) (hS : cs_X S hp)   : qq_Mt mX5_changedCells [.ref 80] hp 0 0 (fun v hp' => v = some (.int (r_X5_changedCells S)) ∧ hp = hp') (fun _ _ => False) := by
  refine qq_met pn_X5 (Nat.le_of_ble_eq_true rfl) (Nat.le_of_ble_eq_true rfl) kc_X5_changedCells ?_
  show qq_Go _ hp 0 0 0 [(0, .ref 80)] [] _ _
  refine qq_iconst (v := 0) dX5_changedCells_0 (by decide) ?_
  refine qq_istore_n (loc' := [(0, .ref 80), (1, .int 0)]) dX5_changedCells_1 rfl [1, 0] (Nat.le_of_ble_eq_true rfl) rfl ?_
  refine qq_iconst (v := 0) dX5_changedCells_2 (by decide) ?_
  refine qq_istore_n (loc' := [(0, .ref 80), (1, .int 0), (2, .int 0)]) dX5_changedCells_3 rfl [1, 2, 0] (Nat.le_of_ble_eq_true rfl) rfl ?_
  have ze : r_X5_changedCells S = lr_X5_changedCells_4 9 (0 : Int32) (0 : Int32) S := by
    rw [r_X5_changedCells]
  rw [ze]
  exact lq_X5_changedCells_4  9 (0 : Int32) (0 : Int32) hp S hS (by decide) (by decide)
def lr_X5_cellsWithQuarters_4  : Nat → Int32 → Int32 → sX → Int32
  | 0, _, _, _ => 0
  | fu + 1, n, i, S => if 8 ≤ i then n else if (f_X2_kindOf (S.1 i.toNatClampNeg)) = 0 then lr_X5_cellsWithQuarters_4 fu (n + 1) (i + 1) S else lr_X5_cellsWithQuarters_4 fu n (i + 1) S
set_option maxRecDepth 4000 in
theorem lq_X5_cellsWithQuarters_4    : ∀ (fu : Nat) (n : Int32) (i : Int32) (hp : qq_H) (S : sX), cs_X S hp → ¬ i < 0 → ((8 : Int32).toInt - i.toInt).toNat < fu → qq_Go mX5_cellsWithQuarters hp 0 0 4 [(0, .ref 80), (1, .int n), (2, .int i)] [] (fun v hp' => v = some (.int (lr_X5_cellsWithQuarters_4 fu n i S)) ∧ hp = hp') (fun _ _ => False)
  | 0, _, _, hp, _, _, _, zz => absurd zz (Nat.not_lt_zero _)
  | fu + 1, n, i, hp, S, hS, zp, zh => by
    refine qq_iload_n dX5_cellsWithQuarters_4 rfl 2 rfl ?_
    refine qq_bipush (v := 8) dX5_cellsWithQuarters_5 (by decide) ?_
    refine qq_icmp_ge (tgt := 31) dX5_cellsWithQuarters_7 (by decide) (fun zc1 => ?_) (fun zc1 => ?_)
    · refine qq_iload_n dX5_cellsWithQuarters_31 rfl 1 rfl ?_
      have ze : lr_X5_cellsWithQuarters_4 (fu + 1) n i S = n := by
        rw [lr_X5_cellsWithQuarters_4, if_pos zc1]
      exact qq_iret dX5_cellsWithQuarters_32 rfl rfl ⟨by rw [ze], rfl⟩
    · refine qq_aload_n dX5_cellsWithQuarters_10 rfl 0 rfl ?_
      refine cx_get hS dX5_cellsWithQuarters_11 0 (by decide) rfl kl_X5_9 ?_
      refine qq_iload_n dX5_cellsWithQuarters_14 rfl 2 rfl ?_
      refine qq_iald dX5_cellsWithQuarters_15 hS.2.2.2.1 (by first | assumption | exact qm_in8 (by assumption) (by assumption) | exact qm_in8d (by assumption) (by assumption) | decide) ?_
      refine qq_callS (bc := 0) (bs := 0) (mc := 0) (ms := 0) (as := [.int (S.1 i.toNatClampNeg)]) (rest := []) dX5_cellsWithQuarters_16 (mt_X2_kindOf hp (S.1 i.toNatClampNeg)) rfl kl_X5_75 ks_X2_kindOf ki_X2 kc_X2_kindOf kd_X2_kindOf rfl (by decide) (by decide) (Nat.le_of_ble_eq_true rfl) (fun v hp' hv _ _ => ?_) (fun E hp' zx _ _ => zx.elim)
      obtain ⟨rfl, rfl⟩ := hv
      show qq_Go _ hp 0 0 19 [(0, .ref 80), (1, .int n), (2, .int i)] [.int (f_X2_kindOf (S.1 i.toNatClampNeg))] _ _
      refine qq_if_ne (tgt := 25) dX5_cellsWithQuarters_19 (by decide) (fun zc2 => ?_) (fun zc2 => ?_)
      · refine qq_iinc (v := i + 1) (loc' := [(0, .ref 80), (1, .int n), (2, .int (i + 1))]) dX5_cellsWithQuarters_25 2 rfl rfl [1, 2, 0] (Nat.le_of_ble_eq_true rfl) rfl ?_
        refine qq_goto (tgt := 4) dX5_cellsWithQuarters_28 (by decide) ?_
        have ze : lr_X5_cellsWithQuarters_4 (fu + 1) n i S = lr_X5_cellsWithQuarters_4 fu n (i + 1) S := by
          rw [lr_X5_cellsWithQuarters_4, if_neg zc1, if_neg zc2]
        rw [ze]
        exact lq_X5_cellsWithQuarters_4  fu n (i + 1) hp S hS (qm_pos zp (by assumption)) (qm_up (by assumption) zh)
      · refine qq_iinc (v := n + 1) (loc' := [(0, .ref 80), (1, .int (n + 1)), (2, .int i)]) dX5_cellsWithQuarters_22 1 rfl rfl [1, 0, 2] (Nat.le_of_ble_eq_true rfl) rfl ?_
        refine qq_iinc (v := i + 1) (loc' := [(0, .ref 80), (1, .int (n + 1)), (2, .int (i + 1))]) dX5_cellsWithQuarters_25 2 rfl rfl [1, 2, 0] (Nat.le_of_ble_eq_true rfl) rfl ?_
        refine qq_goto (tgt := 4) dX5_cellsWithQuarters_28 (by decide) ?_
        have ze : lr_X5_cellsWithQuarters_4 (fu + 1) n i S = lr_X5_cellsWithQuarters_4 fu (n + 1) (i + 1) S := by
          rw [lr_X5_cellsWithQuarters_4, if_neg zc1, if_pos zc2]
        rw [ze]
        exact lq_X5_cellsWithQuarters_4  fu (n + 1) (i + 1) hp S hS (qm_pos zp (by assumption)) (qm_up (by assumption) zh)
def r_X5_cellsWithQuarters  (S : sX) : Int32 := lr_X5_cellsWithQuarters_4 9 (0 : Int32) (0 : Int32) S
set_option maxRecDepth 4000 in
theorem mt_X5_cellsWithQuarters (hp : qq_H) (S : sX) (hS : cs_X S hp)   : qq_Mt mX5_cellsWithQuarters [.ref 80] hp 0 0 (fun v hp' => v = some (.int (r_X5_cellsWithQuarters S)) ∧ hp = hp') (fun _ _ => False) := by
  refine qq_met pn_X5 (Nat.le_of_ble_eq_true rfl) (Nat.le_of_ble_eq_true rfl) kc_X5_cellsWithQuarters ?_
  show qq_Go _ hp 0 0 0 [(0, .ref 80)] [] _ _
  refine qq_iconst (v := 0) dX5_cellsWithQuarters_0 (by decide) ?_
  refine qq_istore_n (loc' := [(0, .ref 80), (1, .int 0)]) dX5_cellsWithQuarters_1 rfl [1, 0] (Nat.le_of_ble_eq_true rfl) rfl ?_
  refine qq_iconst (v := 0) dX5_cellsWithQuarters_2 (by decide) ?_
  refine qq_istore_n (loc' := [(0, .ref 80), (1, .int 0), (2, .int 0)]) dX5_cellsWithQuarters_3 rfl [1, 2, 0] (Nat.le_of_ble_eq_true rfl) rfl ?_
  have ze : r_X5_cellsWithQuarters S = lr_X5_cellsWithQuarters_4 9 (0 : Int32) (0 : Int32) S := by
    rw [r_X5_cellsWithQuarters]
  rw [ze]
  exact lq_X5_cellsWithQuarters_4  9 (0 : Int32) (0 : Int32) hp S hS (by decide) (by decide)
def lr_X5_find_9 (cell : Int32) (isL : Int32) : Nat → Int32 → Int32 → sX → Int32
  | 0, _, _, _ => 0
  | fu + 1, fo, i, S => if 8 ≤ i then fo else if (S.1 i.toNatClampNeg) = (S.1 cell.toNatClampNeg) then if isL = 0 then if fo ≤ i then lr_X5_find_9 cell isL fu fo (i + 1) S else lr_X5_find_9 cell isL fu i (i + 1) S else if i ≤ fo then lr_X5_find_9 cell isL fu fo (i + 1) S else lr_X5_find_9 cell isL fu i (i + 1) S else lr_X5_find_9 cell isL fu fo (i + 1) S
set_option maxRecDepth 4000 in
theorem lq_X5_find_9 (cell : Int32) (isL : Int32) (zq0 : ¬ cell < 0 ∧ ¬ 8 ≤ cell)  : ∀ (fu : Nat) (fo : Int32) (i : Int32) (hp : qq_H) (S : sX), cs_X S hp → ¬ i < 0 → ((8 : Int32).toInt - i.toInt).toNat < fu → qq_Go mX5_find hp 0 0 9 [(0, .ref 80), (1, .int cell), (2, .int isL), (3, .int fo), (4, .int i)] [] (fun v hp' => v = some (.int (lr_X5_find_9 cell isL fu fo i S)) ∧ hp = hp' ∧ (¬ cell < 0 ∧ ¬ 8 ≤ cell)) (fun _ _ => False)
  | 0, _, _, hp, _, _, _, zz => absurd zz (Nat.not_lt_zero _)
  | fu + 1, fo, i, hp, S, hS, zp, zh => by
    have zq01 := zq0.1
    have zq02 := zq0.2
    refine qq_iload dX5_find_9 4 rfl ?_
    refine qq_bipush (v := 8) dX5_find_11 (by decide) ?_
    refine qq_icmp_ge (tgt := 60) dX5_find_13 (by decide) (fun zc1 => ?_) (fun zc1 => ?_)
    · refine qq_iload_n dX5_find_60 rfl 3 rfl ?_
      have ze : lr_X5_find_9 cell isL (fu + 1) fo i S = fo := by
        rw [lr_X5_find_9, if_pos zc1]
      exact qq_iret dX5_find_61 rfl rfl ⟨by rw [ze], rfl, zq0⟩
    · refine qq_aload_n dX5_find_16 rfl 0 rfl ?_
      refine cx_get hS dX5_find_17 0 (by decide) rfl kl_X5_9 ?_
      refine qq_iload dX5_find_20 4 rfl ?_
      refine qq_iald dX5_find_22 hS.2.2.2.1 (by first | assumption | exact qm_in8 (by assumption) (by assumption) | exact qm_in8d (by assumption) (by assumption) | decide) ?_
      refine qq_aload_n dX5_find_23 rfl 0 rfl ?_
      refine cx_get hS dX5_find_24 0 (by decide) rfl kl_X5_9 ?_
      refine qq_iload_n dX5_find_27 rfl 1 rfl ?_
      refine qq_iald dX5_find_28 hS.2.2.2.1 (by first | assumption | exact qm_in8 (by assumption) (by assumption) | exact qm_in8d (by assumption) (by assumption) | decide) ?_
      refine qq_icmp_ne (tgt := 54) dX5_find_29 (by decide) (fun zc2 => ?_) (fun zc2 => ?_)
      · refine qq_iinc (v := i + 1) (loc' := [(0, .ref 80), (1, .int cell), (2, .int isL), (3, .int fo), (4, .int (i + 1))]) dX5_find_54 4 rfl rfl [1, 2, 3, 4, 0] (Nat.le_of_ble_eq_true rfl) rfl ?_
        refine qq_goto (tgt := 9) dX5_find_57 (by decide) ?_
        have ze : lr_X5_find_9 cell isL (fu + 1) fo i S = lr_X5_find_9 cell isL fu fo (i + 1) S := by
          rw [lr_X5_find_9, if_neg zc1, if_neg zc2]
        rw [ze]
        exact lq_X5_find_9 cell isL zq0 fu fo (i + 1) hp S hS (qm_pos zp (by assumption)) (qm_up (by assumption) zh)
      · refine qq_iload_n dX5_find_32 rfl 2 rfl ?_
        refine qq_if_eq (tgt := 45) dX5_find_33 (by decide) (fun zc3 => ?_) (fun zc3 => ?_)
        · refine qq_iload dX5_find_45 4 rfl ?_
          refine qq_iload_n dX5_find_47 rfl 3 rfl ?_
          refine qq_icmp_ge (tgt := 54) dX5_find_48 (by decide) (fun zc4 => ?_) (fun zc4 => ?_)
          · refine qq_iinc (v := i + 1) (loc' := [(0, .ref 80), (1, .int cell), (2, .int isL), (3, .int fo), (4, .int (i + 1))]) dX5_find_54 4 rfl rfl [1, 2, 3, 4, 0] (Nat.le_of_ble_eq_true rfl) rfl ?_
            refine qq_goto (tgt := 9) dX5_find_57 (by decide) ?_
            have ze : lr_X5_find_9 cell isL (fu + 1) fo i S = lr_X5_find_9 cell isL fu fo (i + 1) S := by
              rw [lr_X5_find_9, if_neg zc1, if_pos zc2, if_pos zc3, if_pos zc4]
            rw [ze]
            exact lq_X5_find_9 cell isL zq0 fu fo (i + 1) hp S hS (qm_pos zp (by assumption)) (qm_up (by assumption) zh)
          · refine qq_iload dX5_find_51 4 rfl ?_
            refine qq_istore_n (loc' := [(0, .ref 80), (1, .int cell), (2, .int isL), (3, .int i), (4, .int i)]) dX5_find_53 rfl [1, 2, 3, 0, 4] (Nat.le_of_ble_eq_true rfl) rfl ?_
            refine qq_iinc (v := i + 1) (loc' := [(0, .ref 80), (1, .int cell), (2, .int isL), (3, .int i), (4, .int (i + 1))]) dX5_find_54 4 rfl rfl [1, 2, 3, 4, 0] (Nat.le_of_ble_eq_true rfl) rfl ?_
            refine qq_goto (tgt := 9) dX5_find_57 (by decide) ?_
            have ze : lr_X5_find_9 cell isL (fu + 1) fo i S = lr_X5_find_9 cell isL fu i (i + 1) S := by
              rw [lr_X5_find_9, if_neg zc1, if_pos zc2, if_pos zc3, if_neg zc4]
            rw [ze]
            exact lq_X5_find_9 cell isL zq0 fu i (i + 1) hp S hS (qm_pos zp (by assumption)) (qm_up (by assumption) zh)
        · refine qq_iload dX5_find_36 4 rfl ?_
          refine qq_iload_n dX5_find_38 rfl 3 rfl ?_
          refine qq_icmp_le (tgt := 54) dX5_find_39 (by decide) (fun zc5 => ?_) (fun zc5 => ?_)
          · refine qq_iinc (v := i + 1) (loc' := [(0, .ref 80), (1, .int cell), (2, .int isL), (3, .int fo), (4, .int (i + 1))]) dX5_find_54 4 rfl rfl [1, 2, 3, 4, 0] (Nat.le_of_ble_eq_true rfl) rfl ?_
            refine qq_goto (tgt := 9) dX5_find_57 (by decide) ?_
            have ze : lr_X5_find_9 cell isL (fu + 1) fo i S = lr_X5_find_9 cell isL fu fo (i + 1) S := by
              rw [lr_X5_find_9, if_neg zc1, if_pos zc2, if_neg zc3, if_pos zc5]
            rw [ze]
            exact lq_X5_find_9 cell isL zq0 fu fo (i + 1) hp S hS (qm_pos zp (by assumption)) (qm_up (by assumption) zh)
          · refine qq_goto (tgt := 51) dX5_find_42 (by decide) ?_
            refine qq_iload dX5_find_51 4 rfl ?_
            refine qq_istore_n (loc' := [(0, .ref 80), (1, .int cell), (2, .int isL), (3, .int i), (4, .int i)]) dX5_find_53 rfl [1, 2, 3, 0, 4] (Nat.le_of_ble_eq_true rfl) rfl ?_
            refine qq_iinc (v := i + 1) (loc' := [(0, .ref 80), (1, .int cell), (2, .int isL), (3, .int i), (4, .int (i + 1))]) dX5_find_54 4 rfl rfl [1, 2, 3, 4, 0] (Nat.le_of_ble_eq_true rfl) rfl ?_
            refine qq_goto (tgt := 9) dX5_find_57 (by decide) ?_
            have ze : lr_X5_find_9 cell isL (fu + 1) fo i S = lr_X5_find_9 cell isL fu i (i + 1) S := by
              rw [lr_X5_find_9, if_neg zc1, if_pos zc2, if_neg zc3, if_neg zc5]
            rw [ze]
            exact lq_X5_find_9 cell isL zq0 fu i (i + 1) hp S hS (qm_pos zp (by assumption)) (qm_up (by assumption) zh)
def r_X5_find (cell : Int32) (isL : Int32) (S : sX) : Int32 := lr_X5_find_9 cell isL 9 cell (0 : Int32) S
set_option maxRecDepth 4000 in
theorem mt_X5_find (hp : qq_H) (S : sX) (hS : cs_X S hp) (cell : Int32) (isL : Int32)  : qq_Mt mX5_find [.ref 80, .int cell, .int isL] hp 1 6 (fun v hp' => v = some (.int (r_X5_find cell isL S)) ∧ hp = hp' ∧ (¬ cell < 0 ∧ ¬ 8 ≤ cell)) (fun E hp' => hp = hp' ∧ ((E = "java/lang/IndexOutOfBoundsException" ∧ (cell < 0 ∨ 8 ≤ cell)))) := by
  refine qq_met pn_X5 (Nat.le_of_ble_eq_true rfl) (Nat.le_of_ble_eq_true rfl) kc_X5_find ?_
  show qq_Go _ hp 1 6 0 [(0, .ref 80), (1, .int cell), (2, .int isL)] [] _ _
  refine qq_iload_n dX5_find_0 rfl 1 rfl ?_
  refine qq_callS (bc := 0) (bs := 0) (mc := 1) (ms := 6) (as := [.int cell]) (rest := []) dX5_find_1 (mt_X5_checkCell hp cell ) rfl kl_X5_32 ks_X5_checkCell ki_X5 kc_X5_checkCell kd_X5_checkCell rfl (by decide) (by decide) (Nat.le_of_ble_eq_true rfl) (fun v hp' hv _ _ => ?_) (fun E hp' zx _ _ => by obtain ⟨rfl, rfl, zf⟩ := zx; exact qq_thr rfl ⟨rfl, ⟨rfl, zf⟩⟩)
  obtain ⟨rfl, rfl, zg1⟩ := hv
  have zg11 := zg1.1
  have zg12 := zg1.2
  show qq_Go _ hp 0 0 4 [(0, .ref 80), (1, .int cell), (2, .int isL)] [] _ _
  refine qq_iload_n dX5_find_4 rfl 1 rfl ?_
  refine qq_istore_n (loc' := [(0, .ref 80), (1, .int cell), (2, .int isL), (3, .int cell)]) dX5_find_5 rfl [1, 2, 3, 0] (Nat.le_of_ble_eq_true rfl) rfl ?_
  refine qq_iconst (v := 0) dX5_find_6 (by decide) ?_
  refine qq_istore (loc' := [(0, .ref 80), (1, .int cell), (2, .int isL), (3, .int cell), (4, .int 0)]) dX5_find_7 [1, 2, 3, 4, 0] (Nat.le_of_ble_eq_true rfl) rfl ?_
  have ze : r_X5_find cell isL S = lr_X5_find_9 cell isL 9 cell (0 : Int32) S := by
    rw [r_X5_find]
  rw [ze]
  have zk := lq_X5_find_9 cell isL zg1 9 cell (0 : Int32) hp S hS (by decide) (by decide)
  exact qq_post (fun v hq z => z) (fun _ _ z => z.elim) zk
def lr_X5_rank_8 (cell : Int32) : Nat → Int32 → Int32 → sX → Int32
  | 0, _, _, _ => 0
  | fu + 1, n, i, S => if 8 ≤ i then n else if 0 ≤ (r_X5_compareCells i cell S) then lr_X5_rank_8 cell fu n (i + 1) S else lr_X5_rank_8 cell fu (n + 1) (i + 1) S
set_option maxRecDepth 4000 in
theorem lq_X5_rank_8 (cell : Int32) (zq0 : ¬ cell < 0 ∧ ¬ 8 ≤ cell)  : ∀ (fu : Nat) (n : Int32) (i : Int32) (hp : qq_H) (S : sX), cs_X S hp → ¬ i < 0 → ((8 : Int32).toInt - i.toInt).toNat < fu → qq_Go mX5_rank hp 0 0 8 [(0, .ref 80), (1, .int cell), (2, .int n), (3, .int i)] [] (fun v hp' => v = some (.int (lr_X5_rank_8 cell fu n i S)) ∧ hp = hp' ∧ (¬ cell < 0 ∧ ¬ 8 ≤ cell)) (fun _ _ => False)
  | 0, _, _, hp, _, _, _, zz => absurd zz (Nat.not_lt_zero _)
  | fu + 1, n, i, hp, S, hS, zp, zh => by
    have zq01 := zq0.1
    have zq02 := zq0.2
    refine qq_iload_n dX5_rank_8 rfl 3 rfl ?_
    refine qq_bipush (v := 8) dX5_rank_9 (by decide) ?_
    refine qq_icmp_ge (tgt := 32) dX5_rank_11 (by decide) (fun zc1 => ?_) (fun zc1 => ?_)
    · refine qq_iload_n dX5_rank_32 rfl 2 rfl ?_
      have ze : lr_X5_rank_8 cell (fu + 1) n i S = n := by
        rw [lr_X5_rank_8, if_pos zc1]
      exact qq_iret dX5_rank_33 rfl rfl ⟨by rw [ze], rfl, zq0⟩
    · refine qq_aload_n dX5_rank_14 rfl 0 rfl ?_
      refine qq_iload_n dX5_rank_15 rfl 3 rfl ?_
      refine qq_iload_n dX5_rank_16 rfl 1 rfl ?_
      refine qq_callV (bc := 0) (bs := 0) (mc := 0) (ms := 0) (o := 80) (ci := 2) (N := 6) (T := TX5) (as := [.int i, .int cell]) (rest := []) dX5_rank_17 hS.2.2.1 (by decide) rfl (mt_X5_compareCells hp S hS i cell (by first | assumption | exact ⟨by assumption, by assumption⟩ | exact qm_in8 (by assumption) (by assumption) | exact ⟨by assumption, qm_len (by assumption)⟩ | exact qm_in8d (by assumption) (by assumption) | decide) (by first | assumption | exact ⟨by assumption, by assumption⟩ | exact qm_in8 (by assumption) (by assumption) | exact ⟨by assumption, qm_len (by assumption)⟩ | exact qm_in8d (by assumption) (by assumption) | decide)) rfl kl_X5_90 kn_X5_compareCells ke_X5_compareCells ki_X5 kc_X5_compareCells kd_X5_compareCells rfl (by decide) (by decide) (Nat.le_of_ble_eq_true rfl) (fun v hp' hv _ _ => ?_) (fun E hp' zx _ _ => zx.elim)
      obtain ⟨rfl, rfl⟩ := hv
      show qq_Go _ hp 0 0 20 [(0, .ref 80), (1, .int cell), (2, .int n), (3, .int i)] [.int (r_X5_compareCells i cell S)] _ _
      refine qq_if_ge (tgt := 26) dX5_rank_20 (by decide) (fun zc2 => ?_) (fun zc2 => ?_)
      · refine qq_iinc (v := i + 1) (loc' := [(0, .ref 80), (1, .int cell), (2, .int n), (3, .int (i + 1))]) dX5_rank_26 3 rfl rfl [1, 2, 3, 0] (Nat.le_of_ble_eq_true rfl) rfl ?_
        refine qq_goto (tgt := 8) dX5_rank_29 (by decide) ?_
        have ze : lr_X5_rank_8 cell (fu + 1) n i S = lr_X5_rank_8 cell fu n (i + 1) S := by
          rw [lr_X5_rank_8, if_neg zc1, if_pos zc2]
        rw [ze]
        exact lq_X5_rank_8 cell zq0 fu n (i + 1) hp S hS (qm_pos zp (by assumption)) (qm_up (by assumption) zh)
      · refine qq_iinc (v := n + 1) (loc' := [(0, .ref 80), (1, .int cell), (2, .int (n + 1)), (3, .int i)]) dX5_rank_23 2 rfl rfl [1, 2, 0, 3] (Nat.le_of_ble_eq_true rfl) rfl ?_
        refine qq_iinc (v := i + 1) (loc' := [(0, .ref 80), (1, .int cell), (2, .int (n + 1)), (3, .int (i + 1))]) dX5_rank_26 3 rfl rfl [1, 2, 3, 0] (Nat.le_of_ble_eq_true rfl) rfl ?_
        refine qq_goto (tgt := 8) dX5_rank_29 (by decide) ?_
        have ze : lr_X5_rank_8 cell (fu + 1) n i S = lr_X5_rank_8 cell fu (n + 1) (i + 1) S := by
          rw [lr_X5_rank_8, if_neg zc1, if_neg zc2]
        rw [ze]
        exact lq_X5_rank_8 cell zq0 fu (n + 1) (i + 1) hp S hS (qm_pos zp (by assumption)) (qm_up (by assumption) zh)
def r_X5_rank (cell : Int32) (S : sX) : Int32 := lr_X5_rank_8 cell 9 (0 : Int32) (0 : Int32) S
set_option maxRecDepth 4000 in
theorem mt_X5_rank (hp : qq_H) (S : sX) (hS : cs_X S hp) (cell : Int32)  : qq_Mt mX5_rank [.ref 80, .int cell] hp 1 6 (fun v hp' => v = some (.int (r_X5_rank cell S)) ∧ hp = hp' ∧ (¬ cell < 0 ∧ ¬ 8 ≤ cell)) (fun E hp' => hp = hp' ∧ ((E = "java/lang/IndexOutOfBoundsException" ∧ (cell < 0 ∨ 8 ≤ cell)))) := by
  refine qq_met pn_X5 (Nat.le_of_ble_eq_true rfl) (Nat.le_of_ble_eq_true rfl) kc_X5_rank ?_
  show qq_Go _ hp 1 6 0 [(0, .ref 80), (1, .int cell)] [] _ _
  refine qq_iload_n dX5_rank_0 rfl 1 rfl ?_
  refine qq_callS (bc := 0) (bs := 0) (mc := 1) (ms := 6) (as := [.int cell]) (rest := []) dX5_rank_1 (mt_X5_checkCell hp cell ) rfl kl_X5_32 ks_X5_checkCell ki_X5 kc_X5_checkCell kd_X5_checkCell rfl (by decide) (by decide) (Nat.le_of_ble_eq_true rfl) (fun v hp' hv _ _ => ?_) (fun E hp' zx _ _ => by obtain ⟨rfl, rfl, zf⟩ := zx; exact qq_thr rfl ⟨rfl, ⟨rfl, zf⟩⟩)
  obtain ⟨rfl, rfl, zg1⟩ := hv
  have zg11 := zg1.1
  have zg12 := zg1.2
  show qq_Go _ hp 0 0 4 [(0, .ref 80), (1, .int cell)] [] _ _
  refine qq_iconst (v := 0) dX5_rank_4 (by decide) ?_
  refine qq_istore_n (loc' := [(0, .ref 80), (1, .int cell), (2, .int 0)]) dX5_rank_5 rfl [1, 2, 0] (Nat.le_of_ble_eq_true rfl) rfl ?_
  refine qq_iconst (v := 0) dX5_rank_6 (by decide) ?_
  refine qq_istore_n (loc' := [(0, .ref 80), (1, .int cell), (2, .int 0), (3, .int 0)]) dX5_rank_7 rfl [1, 2, 3, 0] (Nat.le_of_ble_eq_true rfl) rfl ?_
  have ze : r_X5_rank cell S = lr_X5_rank_8 cell 9 (0 : Int32) (0 : Int32) S := by
    rw [r_X5_rank]
  rw [ze]
  have zk := lq_X5_rank_8 cell zg1 9 (0 : Int32) (0 : Int32) hp S hS (by decide) (by decide)
  exact qq_post (fun v hq z => z) (fun _ _ z => z.elim) zk
def lr_X5_wipe_6  : Nat → Int32 → sX → Int32 × sX
  | 0, _, S => (0, S)
  | fu + 1, i, S => if 8 ≤ i then ((r_X5_countAct (r_X5_changedCells S) S).1, (r_X5_countAct (r_X5_changedCells S) S).2) else lr_X5_wipe_6 fu (i + 1) (r_X5_place i (f_X2_nought 0) S)
set_option maxRecDepth 4000 in
theorem lq_X5_wipe_6    : ∀ (fu : Nat) (i : Int32) (hp : qq_H) (S : sX), cs_X S hp → ¬ i < 0 → ((8 : Int32).toInt - i.toInt).toNat < fu → qq_Go mX5_wipe hp 0 0 6 [(0, .ref 80), (1, .int i)] [] (fun v hp' => v = some (.int ((lr_X5_wipe_6 fu i S).1)) ∧ cs_X ((lr_X5_wipe_6 fu i S).2) hp' ∧ sm_X hp hp') (fun _ _ => False)
  | 0, _, hp, _, _, _, zz => absurd zz (Nat.not_lt_zero _)
  | fu + 1, i, hp, S, hS, zp, zh => by
    refine qq_iload_n dX5_wipe_6 rfl 1 rfl ?_
    refine qq_bipush (v := 8) dX5_wipe_7 (by decide) ?_
    refine qq_icmp_ge (tgt := 27) dX5_wipe_9 (by decide) (fun zc1 => ?_) (fun zc1 => ?_)
    · refine qq_aload_n dX5_wipe_27 rfl 0 rfl ?_
      refine qq_aload_n dX5_wipe_28 rfl 0 rfl ?_
      refine qq_callV (bc := 0) (bs := 0) (mc := 0) (ms := 0) (o := 80) (ci := 2) (N := 6) (T := TX5) (as := []) (rest := [.ref 80]) dX5_wipe_29 hS.2.2.1 (by decide) rfl (mt_X5_changedCells hp S hS ) rfl kl_X5_66 kn_X5_changedCells ke_X5_changedCells ki_X5 kc_X5_changedCells kd_X5_changedCells rfl (by decide) (by decide) (Nat.le_of_ble_eq_true rfl) (fun v hp' hv _ _ => ?_) (fun E hp' zx _ _ => zx.elim)
      obtain ⟨rfl, rfl⟩ := hv
      show qq_Go _ hp 0 0 32 [(0, .ref 80), (1, .int i)] [.int (r_X5_changedCells S), .ref 80] _ _
      refine qq_callV (bc := 0) (bs := 0) (mc := 0) (ms := 0) (o := 80) (ci := 2) (N := 6) (T := TX5) (as := [.int (r_X5_changedCells S)]) (rest := []) dX5_wipe_32 hS.2.2.1 (by decide) rfl (mt_X5_countAct hp S hS (r_X5_changedCells S) ) rfl kl_X5_69 kn_X5_countAct ke_X5_countAct ki_X5 kc_X5_countAct kd_X5_countAct rfl (by decide) (by decide) (Nat.le_of_ble_eq_true rfl) (fun v hp1 hv _ _ => ?_) (fun E hp' zx _ _ => zx.elim)
      obtain ⟨rfl, hS1, sM1⟩ := hv
      show qq_Go _ hp1 0 0 35 [(0, .ref 80), (1, .int i)] [.int ((r_X5_countAct (r_X5_changedCells S) S).1)] _ _
      have ze : lr_X5_wipe_6 (fu + 1) i S = ((r_X5_countAct (r_X5_changedCells S) S).1, (r_X5_countAct (r_X5_changedCells S) S).2) := by
        rw [lr_X5_wipe_6, if_pos zc1]
      exact qq_iret dX5_wipe_35 rfl rfl ⟨by rw [ze], by rw [ze]; exact hS1, sM1⟩
    · refine qq_aload_n dX5_wipe_12 rfl 0 rfl ?_
      refine qq_iload_n dX5_wipe_13 rfl 1 rfl ?_
      refine qq_iconst (v := 0) dX5_wipe_14 (by decide) ?_
      refine qq_callS (bc := 0) (bs := 0) (mc := 0) (ms := 0) (as := [.int 0]) (rest := [.int i, .ref 80]) dX5_wipe_15 (mt_X2_nought hp (0 : Int32)) rfl kl_X5_20 ks_X2_nought ki_X2 kc_X2_nought kd_X2_nought rfl (by decide) (by decide) (Nat.le_of_ble_eq_true rfl) (fun v hp' hv _ _ => ?_) (fun E hp' zx _ _ => zx.elim)
      obtain ⟨rfl, rfl⟩ := hv
      show qq_Go _ hp 0 0 18 [(0, .ref 80), (1, .int i)] [.int (f_X2_nought 0), .int i, .ref 80] _ _
      refine qq_callV (bc := 0) (bs := 0) (mc := 0) (ms := 0) (o := 80) (ci := 2) (N := 6) (T := TX5) (as := [.int i, .int (f_X2_nought 0)]) (rest := []) dX5_wipe_18 hS.2.2.1 (by decide) rfl (mt_X5_place hp S hS i (f_X2_nought 0) (by first | assumption | exact ⟨by assumption, by assumption⟩ | exact qm_in8 (by assumption) (by assumption) | exact ⟨by assumption, qm_len (by assumption)⟩ | exact qm_in8d (by assumption) (by assumption) | decide)) rfl kl_X5_62 kn_X5_place ke_X5_place ki_X5 kc_X5_place kd_X5_place rfl (by decide) (by decide) (Nat.le_of_ble_eq_true rfl) (fun v hp2 hv _ _ => ?_) (fun E hp' zx _ _ => zx.elim)
      obtain ⟨rfl, hS2, sM2⟩ := hv
      show qq_Go _ hp2 0 0 21 [(0, .ref 80), (1, .int i)] [] _ _
      refine qq_iinc (v := i + 1) (loc' := [(0, .ref 80), (1, .int (i + 1))]) dX5_wipe_21 1 rfl rfl [1, 0] (Nat.le_of_ble_eq_true rfl) rfl ?_
      refine qq_goto (tgt := 6) dX5_wipe_24 (by decide) ?_
      have ze : lr_X5_wipe_6 (fu + 1) i S = lr_X5_wipe_6 fu (i + 1) (r_X5_place i (f_X2_nought 0) S) := by
        rw [lr_X5_wipe_6, if_neg zc1]
      rw [ze]
      have zk := lq_X5_wipe_6  fu (i + 1) hp2 (r_X5_place i (f_X2_nought 0) S) hS2 (qm_pos zp (by assumption)) (qm_up (by assumption) zh)
      exact qq_post (fun v hq z => ⟨z.1, z.2.1, sm_t sM2 z.2.2⟩) (fun _ _ z => z.elim) zk
def r_X5_wipe  (S : sX) : Int32 × sX := lr_X5_wipe_6 9 (0 : Int32) (r_X5_remember S)
set_option maxRecDepth 4000 in
theorem mt_X5_wipe (hp : qq_H) (S : sX) (hS : cs_X S hp)   : qq_Mt mX5_wipe [.ref 80] hp 0 0 (fun v hp' => v = some (.int ((r_X5_wipe S).1)) ∧ cs_X ((r_X5_wipe S).2) hp' ∧ sm_X hp hp') (fun _ _ => False) := by
  refine qq_met pn_X5 (Nat.le_of_ble_eq_true rfl) (Nat.le_of_ble_eq_true rfl) kc_X5_wipe ?_
  show qq_Go _ hp 0 0 0 [(0, .ref 80)] [] _ _
  refine qq_aload_n dX5_wipe_0 rfl 0 rfl ?_
  refine qq_callV (bc := 0) (bs := 0) (mc := 0) (ms := 0) (o := 80) (ci := 2) (N := 6) (T := TX5) (as := []) (rest := []) dX5_wipe_1 hS.2.2.1 (by decide) rfl (mt_X5_remember hp S hS ) rfl kl_X5_59 kn_X5_remember ke_X5_remember ki_X5 kc_X5_remember kd_X5_remember rfl (by decide) (by decide) (Nat.le_of_ble_eq_true rfl) (fun v hp1 hv _ _ => ?_) (fun E hp' zx _ _ => zx.elim)
  obtain ⟨rfl, hS1, sM1⟩ := hv
  show qq_Go _ hp1 0 0 4 [(0, .ref 80)] [] _ _
  refine qq_iconst (v := 0) dX5_wipe_4 (by decide) ?_
  refine qq_istore_n (loc' := [(0, .ref 80), (1, .int 0)]) dX5_wipe_5 rfl [1, 0] (Nat.le_of_ble_eq_true rfl) rfl ?_
  have ze : r_X5_wipe S = lr_X5_wipe_6 9 (0 : Int32) (r_X5_remember S) := by
    rw [r_X5_wipe]
  rw [ze]
  have zk := lq_X5_wipe_6  9 (0 : Int32) hp1 (r_X5_remember S) hS1 (by decide) (by decide)
  exact qq_post (fun v hq z => ⟨z.1, z.2.1, sm_t sM1 z.2.2⟩) (fun _ _ z => z.elim) zk
def lr_X5_all_10 (how : Int32) : Nat → Int32 → Int32 → sX → Int32 × sX
  | 0, _, _, S => (0, S)
  | fu + 1, n, i, S => if 8 ≤ i then ((r_X5_countAct n S).1, (r_X5_countAct n S).2) else if (f_X0_change how (S.1 i.toNatClampNeg)) = (-1) then lr_X5_all_10 how fu n (i + 1) S else lr_X5_all_10 how fu (n + 1) (i + 1) (r_X5_place i (f_X0_change how (S.1 i.toNatClampNeg)) S)
set_option maxRecDepth 4000 in
theorem lq_X5_all_10 (how : Int32) (zq0 : ¬ how < 1 ∧ ¬ 3 < how)  : ∀ (fu : Nat) (n : Int32) (i : Int32) (hp : qq_H) (S : sX), cs_X S hp → ¬ i < 0 → ((8 : Int32).toInt - i.toInt).toNat < fu → qq_Go mX5_all hp 0 0 10 [(0, .ref 80), (1, .int how), (2, .int n), (3, .int i)] [] (fun v hp' => v = some (.int ((lr_X5_all_10 how fu n i S).1)) ∧ cs_X ((lr_X5_all_10 how fu n i S).2) hp' ∧ sm_X hp hp' ∧ (¬ how < 1 ∧ ¬ 3 < how)) (fun _ _ => False)
  | 0, _, _, hp, _, _, _, zz => absurd zz (Nat.not_lt_zero _)
  | fu + 1, n, i, hp, S, hS, zp, zh => by
    have zq01 := zq0.1
    have zq02 := zq0.2
    refine qq_iload_n dX5_all_10 rfl 3 rfl ?_
    refine qq_bipush (v := 8) dX5_all_11 (by decide) ?_
    refine qq_icmp_ge (tgt := 50) dX5_all_13 (by decide) (fun zc1 => ?_) (fun zc1 => ?_)
    · refine qq_aload_n dX5_all_50 rfl 0 rfl ?_
      refine qq_iload_n dX5_all_51 rfl 2 rfl ?_
      refine qq_callV (bc := 0) (bs := 0) (mc := 0) (ms := 0) (o := 80) (ci := 2) (N := 6) (T := TX5) (as := [.int n]) (rest := []) dX5_all_52 hS.2.2.1 (by decide) rfl (mt_X5_countAct hp S hS n ) rfl kl_X5_69 kn_X5_countAct ke_X5_countAct ki_X5 kc_X5_countAct kd_X5_countAct rfl (by decide) (by decide) (Nat.le_of_ble_eq_true rfl) (fun v hp1 hv _ _ => ?_) (fun E hp' zx _ _ => zx.elim)
      obtain ⟨rfl, hS1, sM1⟩ := hv
      show qq_Go _ hp1 0 0 55 [(0, .ref 80), (1, .int how), (2, .int n), (3, .int i)] [.int ((r_X5_countAct n S).1)] _ _
      have ze : lr_X5_all_10 how (fu + 1) n i S = ((r_X5_countAct n S).1, (r_X5_countAct n S).2) := by
        rw [lr_X5_all_10, if_pos zc1]
      exact qq_iret dX5_all_55 rfl rfl ⟨by rw [ze], by rw [ze]; exact hS1, sM1, zq0⟩
    · refine qq_iload_n dX5_all_16 rfl 1 rfl ?_
      refine qq_aload_n dX5_all_17 rfl 0 rfl ?_
      refine cx_get hS dX5_all_18 0 (by decide) rfl kl_X5_9 ?_
      refine qq_iload_n dX5_all_21 rfl 3 rfl ?_
      refine qq_iald dX5_all_22 hS.2.2.2.1 (by first | assumption | exact qm_in8 (by assumption) (by assumption) | exact qm_in8d (by assumption) (by assumption) | decide) ?_
      refine qq_callS (bc := 0) (bs := 0) (mc := 0) (ms := 0) (as := [.int how, .int (S.1 i.toNatClampNeg)]) (rest := []) dX5_all_23 (mt_X0_change hp how (S.1 i.toNatClampNeg)) rfl kl_X5_87 ks_X0_change ki_X0 kc_X0_change kd_X0_change rfl (by decide) (by decide) (Nat.le_of_ble_eq_true rfl) (fun v hp' hv _ _ => ?_) (fun E hp' zx _ _ => zx.elim)
      obtain ⟨rfl, rfl⟩ := hv
      show qq_Go _ hp 0 0 26 [(0, .ref 80), (1, .int how), (2, .int n), (3, .int i)] [.int (f_X0_change how (S.1 i.toNatClampNeg))] _ _
      refine qq_istore (loc' := [(0, .ref 80), (1, .int how), (2, .int n), (3, .int i), (4, .int (f_X0_change how (S.1 i.toNatClampNeg)))]) dX5_all_26 [1, 2, 3, 4, 0] (Nat.le_of_ble_eq_true rfl) rfl ?_
      refine qq_iload dX5_all_28 4 rfl ?_
      refine qq_iconst (v := (-1)) dX5_all_30 (by decide) ?_
      refine qq_icmp_eq (tgt := 44) dX5_all_31 (by decide) (fun zc2 => ?_) (fun zc2 => ?_)
      · refine qq_iinc (v := i + 1) (loc' := [(0, .ref 80), (1, .int how), (2, .int n), (3, .int (i + 1)), (4, .int (f_X0_change how (S.1 i.toNatClampNeg)))]) dX5_all_44 3 rfl rfl [1, 2, 3, 0, 4] (Nat.le_of_ble_eq_true rfl) rfl ?_
        refine qq_goto (tgt := 10) dX5_all_47 (by decide) ?_
        have ze : lr_X5_all_10 how (fu + 1) n i S = lr_X5_all_10 how fu n (i + 1) S := by
          rw [lr_X5_all_10, if_neg zc1, if_pos zc2]
        rw [ze]
        refine qq_loc [0, 1, 2, 3] rfl ?_
        exact lq_X5_all_10 how zq0 fu n (i + 1) hp S hS (qm_pos zp (by assumption)) (qm_up (by assumption) zh)
      · refine qq_aload_n dX5_all_34 rfl 0 rfl ?_
        refine qq_iload_n dX5_all_35 rfl 3 rfl ?_
        refine qq_iload dX5_all_36 4 rfl ?_
        refine qq_callV (bc := 0) (bs := 0) (mc := 0) (ms := 0) (o := 80) (ci := 2) (N := 6) (T := TX5) (as := [.int i, .int (f_X0_change how (S.1 i.toNatClampNeg))]) (rest := []) dX5_all_38 hS.2.2.1 (by decide) rfl (mt_X5_place hp S hS i (f_X0_change how (S.1 i.toNatClampNeg)) (by first | assumption | exact ⟨by assumption, by assumption⟩ | exact qm_in8 (by assumption) (by assumption) | exact ⟨by assumption, qm_len (by assumption)⟩ | exact qm_in8d (by assumption) (by assumption) | decide)) rfl kl_X5_62 kn_X5_place ke_X5_place ki_X5 kc_X5_place kd_X5_place rfl (by decide) (by decide) (Nat.le_of_ble_eq_true rfl) (fun v hp2 hv _ _ => ?_) (fun E hp' zx _ _ => zx.elim)
        obtain ⟨rfl, hS2, sM2⟩ := hv
        show qq_Go _ hp2 0 0 41 [(0, .ref 80), (1, .int how), (2, .int n), (3, .int i), (4, .int (f_X0_change how (S.1 i.toNatClampNeg)))] [] _ _
        refine qq_iinc (v := n + 1) (loc' := [(0, .ref 80), (1, .int how), (2, .int (n + 1)), (3, .int i), (4, .int (f_X0_change how (S.1 i.toNatClampNeg)))]) dX5_all_41 2 rfl rfl [1, 2, 0, 3, 4] (Nat.le_of_ble_eq_true rfl) rfl ?_
        refine qq_iinc (v := i + 1) (loc' := [(0, .ref 80), (1, .int how), (2, .int (n + 1)), (3, .int (i + 1)), (4, .int (f_X0_change how (S.1 i.toNatClampNeg)))]) dX5_all_44 3 rfl rfl [1, 2, 3, 0, 4] (Nat.le_of_ble_eq_true rfl) rfl ?_
        refine qq_goto (tgt := 10) dX5_all_47 (by decide) ?_
        have ze : lr_X5_all_10 how (fu + 1) n i S = lr_X5_all_10 how fu (n + 1) (i + 1) (r_X5_place i (f_X0_change how (S.1 i.toNatClampNeg)) S) := by
          rw [lr_X5_all_10, if_neg zc1, if_neg zc2]
        rw [ze]
        refine qq_loc [0, 1, 2, 3] rfl ?_
        have zk := lq_X5_all_10 how zq0 fu (n + 1) (i + 1) hp2 (r_X5_place i (f_X0_change how (S.1 i.toNatClampNeg)) S) hS2 (qm_pos zp (by assumption)) (qm_up (by assumption) zh)
        exact qq_post (fun v hq z => ⟨z.1, z.2.1, sm_t sM2 z.2.2.1, z.2.2.2⟩) (fun _ _ z => z.elim) zk
def r_X5_all (how : Int32) (S : sX) : Int32 × sX := lr_X5_all_10 how 9 (0 : Int32) (0 : Int32) S
set_option maxRecDepth 4000 in
theorem mt_X5_all (hp : qq_H) (S : sX) (hS : cs_X S hp) (how : Int32)  : qq_Mt mX5_all [.ref 80, .int how] hp 1 6 (fun v hp' => v = some (.int ((r_X5_all how S).1)) ∧ cs_X ((r_X5_all how S).2) hp' ∧ sm_X hp hp' ∧ (¬ how < 1 ∧ ¬ 3 < how)) (fun E hp' => hp = hp' ∧ ((E = "java/lang/IllegalArgumentException" ∧ (how < 1 ∨ 3 < how)))) := by
  refine qq_met pn_X5 (Nat.le_of_ble_eq_true rfl) (Nat.le_of_ble_eq_true rfl) kc_X5_all ?_
  show qq_Go _ hp 1 6 0 [(0, .ref 80), (1, .int how)] [] _ _
  refine qq_iload_n dX5_all_0 rfl 1 rfl ?_
  refine qq_iconst (v := 1) dX5_all_1 (by decide) ?_
  refine qq_iconst (v := 3) dX5_all_2 (by decide) ?_
  refine qq_callS (bc := 0) (bs := 0) (mc := 1) (ms := 6) (as := [.int how, .int 1, .int 3]) (rest := []) dX5_all_3 (mt_X5_checkRange hp how (1 : Int32) (3 : Int32) ) rfl kl_X5_36 ks_X5_checkRange ki_X5 kc_X5_checkRange kd_X5_checkRange rfl (by decide) (by decide) (Nat.le_of_ble_eq_true rfl) (fun v hp' hv _ _ => ?_) (fun E hp' zx _ _ => by obtain ⟨rfl, rfl, zf⟩ := zx; exact qq_thr rfl ⟨rfl, ⟨rfl, zf⟩⟩)
  obtain ⟨rfl, rfl, zg1⟩ := hv
  have zg11 := zg1.1
  have zg12 := zg1.2
  show qq_Go _ hp 0 0 6 [(0, .ref 80), (1, .int how)] [] _ _
  refine qq_iconst (v := 0) dX5_all_6 (by decide) ?_
  refine qq_istore_n (loc' := [(0, .ref 80), (1, .int how), (2, .int 0)]) dX5_all_7 rfl [1, 2, 0] (Nat.le_of_ble_eq_true rfl) rfl ?_
  refine qq_iconst (v := 0) dX5_all_8 (by decide) ?_
  refine qq_istore_n (loc' := [(0, .ref 80), (1, .int how), (2, .int 0), (3, .int 0)]) dX5_all_9 rfl [1, 2, 3, 0] (Nat.le_of_ble_eq_true rfl) rfl ?_
  have ze : r_X5_all how S = lr_X5_all_10 how 9 (0 : Int32) (0 : Int32) S := by
    rw [r_X5_all]
  rw [ze]
  have zk := lq_X5_all_10 how zg1 9 (0 : Int32) (0 : Int32) hp S hS (by decide) (by decide)
  exact qq_post (fun v hq z => z) (fun _ _ z => z.elim) zk
def lr_X5_row_41 (from9 : Int32) (by9 : Int32) : Nat → Int32 → sX → Int32 × sX
  | 0, _, S => (0, S)
  | fu + 1, i, S => if 8 ≤ i then ((r_X5_countAct (r_X5_changedCells S) S).1, (r_X5_countAct (r_X5_changedCells S) S).2) else lr_X5_row_41 from9 by9 fu (i + 1) (r_X5_place i (f_X2_quarters (from9 + (i * by9))) S)
set_option maxRecDepth 4000 in
theorem lq_X5_row_41 (from9 : Int32) (by9 : Int32) (zq0 : ¬ from9 < -160 ∧ ¬ 160 < from9) (zq1 : ¬ by9 < -40 ∧ ¬ 40 < by9)  : ∀ (fu : Nat) (i : Int32) (hp : qq_H) (S : sX), cs_X S hp → ¬ i < 0 → ((8 : Int32).toInt - i.toInt).toNat < fu → qq_Go mX5_row hp 0 0 41 [(0, .ref 80), (1, .int from9), (2, .int by9), (3, .int i)] [] (fun v hp' => v = some (.int ((lr_X5_row_41 from9 by9 fu i S).1)) ∧ cs_X ((lr_X5_row_41 from9 by9 fu i S).2) hp' ∧ sm_X hp hp' ∧ (¬ from9 < -160 ∧ ¬ 160 < from9) ∧ (¬ by9 < -40 ∧ ¬ 40 < by9)) (fun _ _ => False)
  | 0, _, hp, _, _, _, zz => absurd zz (Nat.not_lt_zero _)
  | fu + 1, i, hp, S, hS, zp, zh => by
    have zq01 := zq0.1
    have zq02 := zq0.2
    have zq11 := zq1.1
    have zq12 := zq1.2
    refine qq_iload_n dX5_row_41 rfl 3 rfl ?_
    refine qq_bipush (v := 8) dX5_row_42 (by decide) ?_
    refine qq_icmp_ge (tgt := 66) dX5_row_44 (by decide) (fun zc1 => ?_) (fun zc1 => ?_)
    · refine qq_aload_n dX5_row_66 rfl 0 rfl ?_
      refine qq_aload_n dX5_row_67 rfl 0 rfl ?_
      refine qq_callV (bc := 0) (bs := 0) (mc := 0) (ms := 0) (o := 80) (ci := 2) (N := 6) (T := TX5) (as := []) (rest := [.ref 80]) dX5_row_68 hS.2.2.1 (by decide) rfl (mt_X5_changedCells hp S hS ) rfl kl_X5_66 kn_X5_changedCells ke_X5_changedCells ki_X5 kc_X5_changedCells kd_X5_changedCells rfl (by decide) (by decide) (Nat.le_of_ble_eq_true rfl) (fun v hp' hv _ _ => ?_) (fun E hp' zx _ _ => zx.elim)
      obtain ⟨rfl, rfl⟩ := hv
      show qq_Go _ hp 0 0 71 [(0, .ref 80), (1, .int from9), (2, .int by9), (3, .int i)] [.int (r_X5_changedCells S), .ref 80] _ _
      refine qq_callV (bc := 0) (bs := 0) (mc := 0) (ms := 0) (o := 80) (ci := 2) (N := 6) (T := TX5) (as := [.int (r_X5_changedCells S)]) (rest := []) dX5_row_71 hS.2.2.1 (by decide) rfl (mt_X5_countAct hp S hS (r_X5_changedCells S) ) rfl kl_X5_69 kn_X5_countAct ke_X5_countAct ki_X5 kc_X5_countAct kd_X5_countAct rfl (by decide) (by decide) (Nat.le_of_ble_eq_true rfl) (fun v hp1 hv _ _ => ?_) (fun E hp' zx _ _ => zx.elim)
      obtain ⟨rfl, hS1, sM1⟩ := hv
      show qq_Go _ hp1 0 0 74 [(0, .ref 80), (1, .int from9), (2, .int by9), (3, .int i)] [.int ((r_X5_countAct (r_X5_changedCells S) S).1)] _ _
      have ze : lr_X5_row_41 from9 by9 (fu + 1) i S = ((r_X5_countAct (r_X5_changedCells S) S).1, (r_X5_countAct (r_X5_changedCells S) S).2) := by
        rw [lr_X5_row_41, if_pos zc1]
      exact qq_iret dX5_row_74 rfl rfl ⟨by rw [ze], by rw [ze]; exact hS1, sM1, zq0, zq1⟩
    · refine qq_aload_n dX5_row_47 rfl 0 rfl ?_
      refine qq_iload_n dX5_row_48 rfl 3 rfl ?_
      refine qq_iload_n dX5_row_49 rfl 1 rfl ?_
      refine qq_iload_n dX5_row_50 rfl 3 rfl ?_
      refine qq_iload_n dX5_row_51 rfl 2 rfl ?_
      refine qq_imul dX5_row_52 ?_
      refine qq_iadd dX5_row_53 ?_
      refine qq_callS (bc := 0) (bs := 0) (mc := 0) (ms := 0) (as := [.int (from9 + (i * by9))]) (rest := [.int i, .ref 80]) dX5_row_54 (mt_X2_quarters hp (from9 + (i * by9))) rfl kl_X5_40 ks_X2_quarters ki_X2 kc_X2_quarters kd_X2_quarters rfl (by decide) (by decide) (Nat.le_of_ble_eq_true rfl) (fun v hp' hv _ _ => ?_) (fun E hp' zx _ _ => zx.elim)
      obtain ⟨rfl, rfl⟩ := hv
      show qq_Go _ hp 0 0 57 [(0, .ref 80), (1, .int from9), (2, .int by9), (3, .int i)] [.int (f_X2_quarters (from9 + (i * by9))), .int i, .ref 80] _ _
      refine qq_callV (bc := 0) (bs := 0) (mc := 0) (ms := 0) (o := 80) (ci := 2) (N := 6) (T := TX5) (as := [.int i, .int (f_X2_quarters (from9 + (i * by9)))]) (rest := []) dX5_row_57 hS.2.2.1 (by decide) rfl (mt_X5_place hp S hS i (f_X2_quarters (from9 + (i * by9))) (by first | assumption | exact ⟨by assumption, by assumption⟩ | exact qm_in8 (by assumption) (by assumption) | exact ⟨by assumption, qm_len (by assumption)⟩ | exact qm_in8d (by assumption) (by assumption) | decide)) rfl kl_X5_62 kn_X5_place ke_X5_place ki_X5 kc_X5_place kd_X5_place rfl (by decide) (by decide) (Nat.le_of_ble_eq_true rfl) (fun v hp2 hv _ _ => ?_) (fun E hp' zx _ _ => zx.elim)
      obtain ⟨rfl, hS2, sM2⟩ := hv
      show qq_Go _ hp2 0 0 60 [(0, .ref 80), (1, .int from9), (2, .int by9), (3, .int i)] [] _ _
      refine qq_iinc (v := i + 1) (loc' := [(0, .ref 80), (1, .int from9), (2, .int by9), (3, .int (i + 1))]) dX5_row_60 3 rfl rfl [1, 2, 3, 0] (Nat.le_of_ble_eq_true rfl) rfl ?_
      refine qq_goto (tgt := 41) dX5_row_63 (by decide) ?_
      have ze : lr_X5_row_41 from9 by9 (fu + 1) i S = lr_X5_row_41 from9 by9 fu (i + 1) (r_X5_place i (f_X2_quarters (from9 + (i * by9))) S) := by
        rw [lr_X5_row_41, if_neg zc1]
      rw [ze]
      have zk := lq_X5_row_41 from9 by9 zq0 zq1 fu (i + 1) hp2 (r_X5_place i (f_X2_quarters (from9 + (i * by9))) S) hS2 (qm_pos zp (by assumption)) (qm_up (by assumption) zh)
      exact qq_post (fun v hq z => ⟨z.1, z.2.1, sm_t sM2 z.2.2.1, z.2.2.2.1, z.2.2.2.2⟩) (fun _ _ z => z.elim) zk
def r_X5_row (from9 : Int32) (by9 : Int32) (S : sX) : Int32 × sX := if (f_X2_canBeQuarter (from9 + (7 * by9))) = 0 then ((r_X5_refuse S).1, (r_X5_refuse S).2) else lr_X5_row_41 from9 by9 9 (0 : Int32) (r_X5_remember S)
set_option maxRecDepth 4000 in
theorem mt_X5_row (hp : qq_H) (S : sX) (hS : cs_X S hp) (from9 : Int32) (by9 : Int32)  : qq_Mt mX5_row [.ref 80, .int from9, .int by9] hp 2 12 (fun v hp' => v = some (.int ((r_X5_row from9 by9 S).1)) ∧ cs_X ((r_X5_row from9 by9 S).2) hp' ∧ sm_X hp hp' ∧ (¬ from9 < -160 ∧ ¬ 160 < from9) ∧ (¬ by9 < -40 ∧ ¬ 40 < by9)) (fun E hp' => hp = hp' ∧ ((E = "java/lang/IllegalArgumentException" ∧ (from9 < -160 ∨ 160 < from9)) ∨ (E = "java/lang/IllegalArgumentException" ∧ (¬ from9 < -160 ∧ ¬ 160 < from9) ∧ (by9 < -40 ∨ 40 < by9)))) := by
  refine qq_met pn_X5 (Nat.le_of_ble_eq_true rfl) (Nat.le_of_ble_eq_true rfl) kc_X5_row ?_
  show qq_Go _ hp 2 12 0 [(0, .ref 80), (1, .int from9), (2, .int by9)] [] _ _
  refine qq_iload_n dX5_row_0 rfl 1 rfl ?_
  refine qq_sipush (v := (-160)) dX5_row_1 (by decide) ?_
  refine qq_sipush (v := 160) dX5_row_4 (by decide) ?_
  refine qq_callS (bc := 1) (bs := 6) (mc := 1) (ms := 6) (as := [.int from9, .int (-160), .int 160]) (rest := []) dX5_row_7 (mt_X5_checkRange hp from9 (-160 : Int32) (160 : Int32) ) rfl kl_X5_36 ks_X5_checkRange ki_X5 kc_X5_checkRange kd_X5_checkRange rfl (by decide) (by decide) (Nat.le_of_ble_eq_true rfl) (fun v hp' hv _ _ => ?_) (fun E hp' zx _ _ => by obtain ⟨rfl, rfl, zf⟩ := zx; exact qq_thr rfl ⟨rfl, (Or.inl ⟨rfl, zf⟩)⟩)
  obtain ⟨rfl, rfl, zg1⟩ := hv
  have zg11 := zg1.1
  have zg12 := zg1.2
  show qq_Go _ hp 1 6 10 [(0, .ref 80), (1, .int from9), (2, .int by9)] [] _ _
  refine qq_iload_n dX5_row_10 rfl 2 rfl ?_
  refine qq_bipush (v := (-40)) dX5_row_11 (by decide) ?_
  refine qq_bipush (v := 40) dX5_row_13 (by decide) ?_
  refine qq_callS (bc := 0) (bs := 0) (mc := 1) (ms := 6) (as := [.int by9, .int (-40), .int 40]) (rest := []) dX5_row_15 (mt_X5_checkRange hp by9 (-40 : Int32) (40 : Int32) ) rfl kl_X5_36 ks_X5_checkRange ki_X5 kc_X5_checkRange kd_X5_checkRange rfl (by decide) (by decide) (Nat.le_of_ble_eq_true rfl) (fun v hp' hv _ _ => ?_) (fun E hp' zx _ _ => by obtain ⟨rfl, rfl, zf⟩ := zx; exact qq_thr rfl ⟨rfl, (Or.inr ⟨rfl, zg1, zf⟩)⟩)
  obtain ⟨rfl, rfl, zg2⟩ := hv
  have zg21 := zg2.1
  have zg22 := zg2.2
  show qq_Go _ hp 0 0 18 [(0, .ref 80), (1, .int from9), (2, .int by9)] [] _ _
  refine qq_iload_n dX5_row_18 rfl 1 rfl ?_
  refine qq_bipush (v := 7) dX5_row_19 (by decide) ?_
  refine qq_iload_n dX5_row_21 rfl 2 rfl ?_
  refine qq_imul dX5_row_22 ?_
  refine qq_iadd dX5_row_23 ?_
  refine qq_callS (bc := 0) (bs := 0) (mc := 0) (ms := 0) (as := [.int (from9 + (7 * by9))]) (rest := []) dX5_row_24 (mt_X2_canBeQuarter hp (from9 + (7 * by9))) rfl kl_X5_51 ks_X2_canBeQuarter ki_X2 kc_X2_canBeQuarter kd_X2_canBeQuarter rfl (by decide) (by decide) (Nat.le_of_ble_eq_true rfl) (fun v hp' hv _ _ => ?_) (fun E hp' zx _ _ => zx.elim)
  obtain ⟨rfl, rfl⟩ := hv
  show qq_Go _ hp 0 0 27 [(0, .ref 80), (1, .int from9), (2, .int by9)] [.int (f_X2_canBeQuarter (from9 + (7 * by9)))] _ _
  refine qq_if_ne (tgt := 35) dX5_row_27 (by decide) (fun zc1 => ?_) (fun zc1 => ?_)
  · refine qq_aload_n dX5_row_35 rfl 0 rfl ?_
    refine qq_callV (bc := 0) (bs := 0) (mc := 0) (ms := 0) (o := 80) (ci := 2) (N := 6) (T := TX5) (as := []) (rest := []) dX5_row_36 hS.2.2.1 (by decide) rfl (mt_X5_remember hp S hS ) rfl kl_X5_59 kn_X5_remember ke_X5_remember ki_X5 kc_X5_remember kd_X5_remember rfl (by decide) (by decide) (Nat.le_of_ble_eq_true rfl) (fun v hp1 hv _ _ => ?_) (fun E hp' zx _ _ => zx.elim)
    obtain ⟨rfl, hS1, sM1⟩ := hv
    show qq_Go _ hp1 0 0 39 [(0, .ref 80), (1, .int from9), (2, .int by9)] [] _ _
    refine qq_iconst (v := 0) dX5_row_39 (by decide) ?_
    refine qq_istore_n (loc' := [(0, .ref 80), (1, .int from9), (2, .int by9), (3, .int 0)]) dX5_row_40 rfl [1, 2, 3, 0] (Nat.le_of_ble_eq_true rfl) rfl ?_
    have ze : r_X5_row from9 by9 S = lr_X5_row_41 from9 by9 9 (0 : Int32) (r_X5_remember S) := by
      rw [r_X5_row, if_neg zc1]
    rw [ze]
    have zk := lq_X5_row_41 from9 by9 zg1 zg2 9 (0 : Int32) hp1 (r_X5_remember S) hS1 (by decide) (by decide)
    exact qq_post (fun v hq z => ⟨z.1, z.2.1, sm_t sM1 z.2.2.1, z.2.2.2.1, z.2.2.2.2⟩) (fun _ _ z => z.elim) zk
  · refine qq_aload_n dX5_row_30 rfl 0 rfl ?_
    refine qq_callV (bc := 0) (bs := 0) (mc := 0) (ms := 0) (o := 80) (ci := 2) (N := 6) (T := TX5) (as := []) (rest := []) dX5_row_31 hS.2.2.1 (by decide) rfl (mt_X5_refuse hp S hS ) rfl kl_X5_55 kn_X5_refuse ke_X5_refuse ki_X5 kc_X5_refuse kd_X5_refuse rfl (by decide) (by decide) (Nat.le_of_ble_eq_true rfl) (fun v hp2 hv _ _ => ?_) (fun E hp' zx _ _ => zx.elim)
    obtain ⟨rfl, hS2, sM2⟩ := hv
    show qq_Go _ hp2 0 0 34 [(0, .ref 80), (1, .int from9), (2, .int by9)] [.int ((r_X5_refuse S).1)] _ _
    have ze : r_X5_row from9 by9 S = ((r_X5_refuse S).1, (r_X5_refuse S).2) := by
      rw [r_X5_row, if_pos zc1]
    exact qq_iret dX5_row_34 rfl rfl ⟨by rw [ze], by rw [ze]; exact hS2, sM2, zg1, zg2⟩
def lr_X5_end_9 (isG : Int32) (into : Int32) : Nat → Int32 → Int32 → sX → Int32 × sX
  | 0, _, _, S => (0, S)
  | fu + 1, bst, i, S => if 8 ≤ i then ((r_X5_bring into (S.1 bst.toNatClampNeg) S).1, (r_X5_bring into (S.1 bst.toNatClampNeg) S).2) else if isG = 0 then if 0 ≤ (r_X5_compareCells i bst S) then lr_X5_end_9 isG into fu bst (i + 1) S else lr_X5_end_9 isG into fu i (i + 1) S else if (r_X5_compareCells i bst S) ≤ 0 then lr_X5_end_9 isG into fu bst (i + 1) S else lr_X5_end_9 isG into fu i (i + 1) S
set_option maxRecDepth 4000 in
theorem lq_X5_end_9 (isG : Int32) (into : Int32) (zq0 : ¬ into < 0 ∧ ¬ 8 ≤ into)  : ∀ (fu : Nat) (bst : Int32) (i : Int32) (hp : qq_H) (S : sX), cs_X S hp → ¬ i < 0 → vp_in bst 8 → ((8 : Int32).toInt - i.toInt).toNat < fu → qq_Go mX5_end hp 0 0 9 [(0, .ref 80), (1, .int isG), (2, .int into), (3, .int bst), (4, .int i)] [] (fun v hp' => v = some (.int ((lr_X5_end_9 isG into fu bst i S).1)) ∧ cs_X ((lr_X5_end_9 isG into fu bst i S).2) hp' ∧ sm_X hp hp' ∧ (¬ into < 0 ∧ ¬ 8 ≤ into)) (fun _ _ => False)
  | 0, _, _, hp, _, _, _, _, zz => absurd zz (Nat.not_lt_zero _)
  | fu + 1, bst, i, hp, S, hS, zp, zb, zh => by
    have zq01 := zq0.1
    have zq02 := zq0.2
    refine qq_iload dX5_end_9 4 rfl ?_
    refine qq_bipush (v := 8) dX5_end_11 (by decide) ?_
    refine qq_icmp_ge (tgt := 51) dX5_end_13 (by decide) (fun zc1 => ?_) (fun zc1 => ?_)
    · refine qq_aload_n dX5_end_51 rfl 0 rfl ?_
      refine qq_iload_n dX5_end_52 rfl 2 rfl ?_
      refine qq_aload_n dX5_end_53 rfl 0 rfl ?_
      refine cx_get hS dX5_end_54 0 (by decide) rfl kl_X5_9 ?_
      refine qq_iload_n dX5_end_57 rfl 3 rfl ?_
      refine qq_iald dX5_end_58 hS.2.2.2.1 (by first | assumption | exact qm_in8 (by assumption) (by assumption) | exact qm_in8d (by assumption) (by assumption) | decide) ?_
      refine qq_callV (bc := 0) (bs := 0) (mc := 0) (ms := 0) (o := 80) (ci := 2) (N := 6) (T := TX5) (as := [.int into, .int (S.1 bst.toNatClampNeg)]) (rest := []) dX5_end_59 hS.2.2.1 (by decide) rfl (mt_X5_bring hp S hS into (S.1 bst.toNatClampNeg) (by first | assumption | exact ⟨by assumption, by assumption⟩ | exact qm_in8 (by assumption) (by assumption) | exact ⟨by assumption, qm_len (by assumption)⟩ | exact qm_in8d (by assumption) (by assumption) | decide)) rfl kl_X5_44 kn_X5_bring ke_X5_bring ki_X5 kc_X5_bring kd_X5_bring rfl (by decide) (by decide) (Nat.le_of_ble_eq_true rfl) (fun v hp1 hv _ _ => ?_) (fun E hp' zx _ _ => zx.elim)
      obtain ⟨rfl, hS1, sM1⟩ := hv
      show qq_Go _ hp1 0 0 62 [(0, .ref 80), (1, .int isG), (2, .int into), (3, .int bst), (4, .int i)] [.int ((r_X5_bring into (S.1 bst.toNatClampNeg) S).1)] _ _
      have ze : lr_X5_end_9 isG into (fu + 1) bst i S = ((r_X5_bring into (S.1 bst.toNatClampNeg) S).1, (r_X5_bring into (S.1 bst.toNatClampNeg) S).2) := by
        rw [lr_X5_end_9, if_pos zc1]
      exact qq_iret dX5_end_62 rfl rfl ⟨by rw [ze], by rw [ze]; exact hS1, sM1, zq0⟩
    · refine qq_aload_n dX5_end_16 rfl 0 rfl ?_
      refine qq_iload dX5_end_17 4 rfl ?_
      refine qq_iload_n dX5_end_19 rfl 3 rfl ?_
      refine qq_callV (bc := 0) (bs := 0) (mc := 0) (ms := 0) (o := 80) (ci := 2) (N := 6) (T := TX5) (as := [.int i, .int bst]) (rest := []) dX5_end_20 hS.2.2.1 (by decide) rfl (mt_X5_compareCells hp S hS i bst (by first | assumption | exact ⟨by assumption, by assumption⟩ | exact qm_in8 (by assumption) (by assumption) | exact ⟨by assumption, qm_len (by assumption)⟩ | exact qm_in8d (by assumption) (by assumption) | decide) (by first | assumption | exact ⟨by assumption, by assumption⟩ | exact qm_in8 (by assumption) (by assumption) | exact ⟨by assumption, qm_len (by assumption)⟩ | exact qm_in8d (by assumption) (by assumption) | decide)) rfl kl_X5_90 kn_X5_compareCells ke_X5_compareCells ki_X5 kc_X5_compareCells kd_X5_compareCells rfl (by decide) (by decide) (Nat.le_of_ble_eq_true rfl) (fun v hp' hv _ _ => ?_) (fun E hp' zx _ _ => zx.elim)
      obtain ⟨rfl, rfl⟩ := hv
      show qq_Go _ hp 0 0 23 [(0, .ref 80), (1, .int isG), (2, .int into), (3, .int bst), (4, .int i)] [.int (r_X5_compareCells i bst S)] _ _
      refine qq_istore (loc' := [(0, .ref 80), (1, .int isG), (2, .int into), (3, .int bst), (4, .int i), (5, .int (r_X5_compareCells i bst S))]) dX5_end_23 [1, 2, 3, 4, 5, 0] (Nat.le_of_ble_eq_true rfl) rfl ?_
      refine qq_iload_n dX5_end_25 rfl 1 rfl ?_
      refine qq_if_eq (tgt := 37) dX5_end_26 (by decide) (fun zc2 => ?_) (fun zc2 => ?_)
      · refine qq_iload dX5_end_37 5 rfl ?_
        refine qq_if_ge (tgt := 45) dX5_end_39 (by decide) (fun zc3 => ?_) (fun zc3 => ?_)
        · refine qq_iinc (v := i + 1) (loc' := [(0, .ref 80), (1, .int isG), (2, .int into), (3, .int bst), (4, .int (i + 1)), (5, .int (r_X5_compareCells i bst S))]) dX5_end_45 4 rfl rfl [1, 2, 3, 4, 0, 5] (Nat.le_of_ble_eq_true rfl) rfl ?_
          refine qq_goto (tgt := 9) dX5_end_48 (by decide) ?_
          have ze : lr_X5_end_9 isG into (fu + 1) bst i S = lr_X5_end_9 isG into fu bst (i + 1) S := by
            rw [lr_X5_end_9, if_neg zc1, if_pos zc2, if_pos zc3]
          rw [ze]
          refine qq_loc [0, 1, 2, 3, 4] rfl ?_
          exact lq_X5_end_9 isG into zq0 fu bst (i + 1) hp S hS (qm_pos zp (by assumption)) (by first | assumption | exact qm_in8 (by assumption) (by assumption)) (qm_up (by assumption) zh)
        · refine qq_iload dX5_end_42 4 rfl ?_
          refine qq_istore_n (loc' := [(0, .ref 80), (1, .int isG), (2, .int into), (3, .int i), (4, .int i), (5, .int (r_X5_compareCells i bst S))]) dX5_end_44 rfl [1, 2, 3, 0, 4, 5] (Nat.le_of_ble_eq_true rfl) rfl ?_
          refine qq_iinc (v := i + 1) (loc' := [(0, .ref 80), (1, .int isG), (2, .int into), (3, .int i), (4, .int (i + 1)), (5, .int (r_X5_compareCells i bst S))]) dX5_end_45 4 rfl rfl [1, 2, 3, 4, 0, 5] (Nat.le_of_ble_eq_true rfl) rfl ?_
          refine qq_goto (tgt := 9) dX5_end_48 (by decide) ?_
          have ze : lr_X5_end_9 isG into (fu + 1) bst i S = lr_X5_end_9 isG into fu i (i + 1) S := by
            rw [lr_X5_end_9, if_neg zc1, if_pos zc2, if_neg zc3]
          rw [ze]
          refine qq_loc [0, 1, 2, 3, 4] rfl ?_
          exact lq_X5_end_9 isG into zq0 fu i (i + 1) hp S hS (qm_pos zp (by assumption)) (by first | assumption | exact qm_in8 (by assumption) (by assumption)) (qm_up (by assumption) zh)
      · refine qq_iload dX5_end_29 5 rfl ?_
        refine qq_if_le (tgt := 45) dX5_end_31 (by decide) (fun zc4 => ?_) (fun zc4 => ?_)
        · refine qq_iinc (v := i + 1) (loc' := [(0, .ref 80), (1, .int isG), (2, .int into), (3, .int bst), (4, .int (i + 1)), (5, .int (r_X5_compareCells i bst S))]) dX5_end_45 4 rfl rfl [1, 2, 3, 4, 0, 5] (Nat.le_of_ble_eq_true rfl) rfl ?_
          refine qq_goto (tgt := 9) dX5_end_48 (by decide) ?_
          have ze : lr_X5_end_9 isG into (fu + 1) bst i S = lr_X5_end_9 isG into fu bst (i + 1) S := by
            rw [lr_X5_end_9, if_neg zc1, if_neg zc2, if_pos zc4]
          rw [ze]
          refine qq_loc [0, 1, 2, 3, 4] rfl ?_
          exact lq_X5_end_9 isG into zq0 fu bst (i + 1) hp S hS (qm_pos zp (by assumption)) (by first | assumption | exact qm_in8 (by assumption) (by assumption)) (qm_up (by assumption) zh)
        · refine qq_goto (tgt := 42) dX5_end_34 (by decide) ?_
          refine qq_iload dX5_end_42 4 rfl ?_
          refine qq_istore_n (loc' := [(0, .ref 80), (1, .int isG), (2, .int into), (3, .int i), (4, .int i), (5, .int (r_X5_compareCells i bst S))]) dX5_end_44 rfl [1, 2, 3, 0, 4, 5] (Nat.le_of_ble_eq_true rfl) rfl ?_
          refine qq_iinc (v := i + 1) (loc' := [(0, .ref 80), (1, .int isG), (2, .int into), (3, .int i), (4, .int (i + 1)), (5, .int (r_X5_compareCells i bst S))]) dX5_end_45 4 rfl rfl [1, 2, 3, 4, 0, 5] (Nat.le_of_ble_eq_true rfl) rfl ?_
          refine qq_goto (tgt := 9) dX5_end_48 (by decide) ?_
          have ze : lr_X5_end_9 isG into (fu + 1) bst i S = lr_X5_end_9 isG into fu i (i + 1) S := by
            rw [lr_X5_end_9, if_neg zc1, if_neg zc2, if_neg zc4]
          rw [ze]
          refine qq_loc [0, 1, 2, 3, 4] rfl ?_
          exact lq_X5_end_9 isG into zq0 fu i (i + 1) hp S hS (qm_pos zp (by assumption)) (by first | assumption | exact qm_in8 (by assumption) (by assumption)) (qm_up (by assumption) zh)
def r_X5_end (isG : Int32) (into : Int32) (S : sX) : Int32 × sX := lr_X5_end_9 isG into 9 (0 : Int32) (1 : Int32) S
set_option maxRecDepth 4000 in
theorem mt_X5_end (hp : qq_H) (S : sX) (hS : cs_X S hp) (isG : Int32) (into : Int32)  : qq_Mt mX5_end [.ref 80, .int isG, .int into] hp 1 6 (fun v hp' => v = some (.int ((r_X5_end isG into S).1)) ∧ cs_X ((r_X5_end isG into S).2) hp' ∧ sm_X hp hp' ∧ (¬ into < 0 ∧ ¬ 8 ≤ into)) (fun E hp' => hp = hp' ∧ ((E = "java/lang/IndexOutOfBoundsException" ∧ (into < 0 ∨ 8 ≤ into)))) := by
  refine qq_met pn_X5 (Nat.le_of_ble_eq_true rfl) (Nat.le_of_ble_eq_true rfl) kc_X5_end ?_
  show qq_Go _ hp 1 6 0 [(0, .ref 80), (1, .int isG), (2, .int into)] [] _ _
  refine qq_iload_n dX5_end_0 rfl 2 rfl ?_
  refine qq_callS (bc := 0) (bs := 0) (mc := 1) (ms := 6) (as := [.int into]) (rest := []) dX5_end_1 (mt_X5_checkCell hp into ) rfl kl_X5_32 ks_X5_checkCell ki_X5 kc_X5_checkCell kd_X5_checkCell rfl (by decide) (by decide) (Nat.le_of_ble_eq_true rfl) (fun v hp' hv _ _ => ?_) (fun E hp' zx _ _ => by obtain ⟨rfl, rfl, zf⟩ := zx; exact qq_thr rfl ⟨rfl, ⟨rfl, zf⟩⟩)
  obtain ⟨rfl, rfl, zg1⟩ := hv
  have zg11 := zg1.1
  have zg12 := zg1.2
  show qq_Go _ hp 0 0 4 [(0, .ref 80), (1, .int isG), (2, .int into)] [] _ _
  refine qq_iconst (v := 0) dX5_end_4 (by decide) ?_
  refine qq_istore_n (loc' := [(0, .ref 80), (1, .int isG), (2, .int into), (3, .int 0)]) dX5_end_5 rfl [1, 2, 3, 0] (Nat.le_of_ble_eq_true rfl) rfl ?_
  refine qq_iconst (v := 1) dX5_end_6 (by decide) ?_
  refine qq_istore (loc' := [(0, .ref 80), (1, .int isG), (2, .int into), (3, .int 0), (4, .int 1)]) dX5_end_7 [1, 2, 3, 4, 0] (Nat.le_of_ble_eq_true rfl) rfl ?_
  have ze : r_X5_end isG into S = lr_X5_end_9 isG into 9 (0 : Int32) (1 : Int32) S := by
    rw [r_X5_end]
  rw [ze]
  have zk := lq_X5_end_9 isG into zg1 9 (0 : Int32) (1 : Int32) hp S hS (by decide) (qm_in8 (by decide) (by decide)) (by decide)
  exact qq_post (fun v hq z => z) (fun _ _ z => z.elim) zk