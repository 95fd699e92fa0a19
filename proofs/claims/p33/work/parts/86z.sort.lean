def lr_X5_sort_14 (i : Int32) (kx : sX → Int32 × sX) : Nat → Int32 → sX → Int32 × sX
  | 0, _, S => (0, S)
  | fu + 1, k9, S => if k9 ≤ 0 then kx  S else if 0 ≤ (r_X5_compareCells k9 (k9 - 1) S) then kx  S else lr_X5_sort_14 i kx fu (k9 + (-1)) (r_X5_place (k9 - 1) (S.1 k9.toNatClampNeg) (r_X5_place k9 (S.1 (k9 - 1).toNatClampNeg) S))
set_option maxRecDepth 4000 in
theorem lq_X5_sort_14 (i : Int32) (kx : sX → Int32 × sX) (hkx : ∀  (hp : qq_H) (S : sX), cs_X S hp →  qq_Go mX5_sort hp 0 0 63 [(0, .ref 80), (1, .int i)] [] (fun v hp' => v = some (.int ((kx  S).1)) ∧ cs_X ((kx  S).2) hp' ∧ sm_X hp hp') (fun _ _ => False))   : ∀ (fu : Nat) (k9 : Int32) (hp : qq_H) (S : sX), cs_X S hp → vp_in k9 8 → ¬ i < 0 → ¬ 8 ≤ i → k9.toInt.toNat < fu → qq_Go mX5_sort hp 0 0 14 [(0, .ref 80), (1, .int i), (2, .int k9)] [] (fun v hp' => v = some (.int ((lr_X5_sort_14 i kx fu k9 S).1)) ∧ cs_X ((lr_X5_sort_14 i kx fu k9 S).2) hp' ∧ sm_X hp hp') (fun _ _ => False)
  | 0, _, hp, _, _, _, _, _, zz => absurd zz (Nat.not_lt_zero _)
  | fu + 1, k9, hp, S, hS, zk8, zi9, zi8, zh => by
    refine qq_iload_n dX5_sort_14 rfl 2 rfl ?_
    refine qq_if_le (tgt := 63) dX5_sort_15 (by decide) (fun zc1 => ?_) (fun zc1 => ?_)
    · have ze : lr_X5_sort_14 i kx (fu + 1) k9 S = kx  S := by
        rw [lr_X5_sort_14, if_pos zc1]
      rw [ze]
      refine qq_loc [0, 1] rfl ?_
      exact hkx  hp S hS 
    · refine qq_aload_n dX5_sort_18 rfl 0 rfl ?_
      refine qq_iload_n dX5_sort_19 rfl 2 rfl ?_
      refine qq_iload_n dX5_sort_20 rfl 2 rfl ?_
      refine qq_iconst (v := 1) dX5_sort_21 (by decide) ?_
      refine qq_isub dX5_sort_22 ?_
      refine qq_callV (bc := 0) (bs := 0) (mc := 0) (ms := 0) (o := 80) (ci := 2) (N := 6) (T := TX5) (as := [.int k9, .int (k9 - 1)]) (rest := []) dX5_sort_23 hS.2.2.1 (by decide) rfl (mt_X5_compareCells hp S hS k9 (k9 - 1) (by first | assumption | exact ⟨by assumption, by assumption⟩ | exact qm_in8 (by assumption) (by assumption) | exact ⟨by assumption, qm_len (by assumption)⟩ | exact qm_in8d (by assumption) (by assumption) | decide) (by first | assumption | exact ⟨by assumption, by assumption⟩ | exact qm_in8 (by assumption) (by assumption) | exact ⟨by assumption, qm_len (by assumption)⟩ | exact qm_in8d (by assumption) (by assumption) | decide)) rfl kl_X5_90 kn_X5_compareCells ke_X5_compareCells ki_X5 kc_X5_compareCells kd_X5_compareCells rfl (by decide) (by decide) (Nat.le_of_ble_eq_true rfl) (fun v hp' hv _ _ => ?_) (fun E hp' zx _ _ => zx.elim)
      obtain ⟨rfl, rfl⟩ := hv
      show qq_Go _ hp 0 0 26 [(0, .ref 80), (1, .int i), (2, .int k9)] [.int (r_X5_compareCells k9 (k9 - 1) S)] _ _
      refine qq_if_ge (tgt := 63) dX5_sort_26 (by decide) (fun zc2 => ?_) (fun zc2 => ?_)
      · have ze : lr_X5_sort_14 i kx (fu + 1) k9 S = kx  S := by
          rw [lr_X5_sort_14, if_neg zc1, if_pos zc2]
        rw [ze]
        refine qq_loc [0, 1] rfl ?_
        exact hkx  hp S hS 
      · refine qq_aload_n dX5_sort_29 rfl 0 rfl ?_
        refine cx_get hS dX5_sort_30 0 (by decide) rfl kl_X5_9 ?_
        refine qq_iload_n dX5_sort_33 rfl 2 rfl ?_
        refine qq_iald dX5_sort_34 hS.2.2.2.1 (by first | assumption | exact qm_in8 (by assumption) (by assumption) | exact qm_in8d (by assumption) (by assumption) | decide) ?_
        refine qq_istore_n (loc' := [(0, .ref 80), (1, .int i), (2, .int k9), (3, .int (S.1 k9.toNatClampNeg))]) dX5_sort_35 rfl [1, 2, 3, 0] (Nat.le_of_ble_eq_true rfl) rfl ?_
        refine qq_aload_n dX5_sort_36 rfl 0 rfl ?_
        refine qq_iload_n dX5_sort_37 rfl 2 rfl ?_
        refine qq_aload_n dX5_sort_38 rfl 0 rfl ?_
        refine cx_get hS dX5_sort_39 0 (by decide) rfl kl_X5_9 ?_
        refine qq_iload_n dX5_sort_42 rfl 2 rfl ?_
        refine qq_iconst (v := 1) dX5_sort_43 (by decide) ?_
        refine qq_isub dX5_sort_44 ?_
        refine qq_iald dX5_sort_45 hS.2.2.2.1 (by first | assumption | exact qm_in8 (by assumption) (by assumption) | exact qm_in8d (by assumption) (by assumption) | decide) ?_
        refine qq_callV (bc := 0) (bs := 0) (mc := 0) (ms := 0) (o := 80) (ci := 2) (N := 6) (T := TX5) (as := [.int k9, .int (S.1 (k9 - 1).toNatClampNeg)]) (rest := []) dX5_sort_46 hS.2.2.1 (by decide) rfl (mt_X5_place hp S hS k9 (S.1 (k9 - 1).toNatClampNeg) (by first | assumption | exact ⟨by assumption, by assumption⟩ | exact qm_in8 (by assumption) (by assumption) | exact ⟨by assumption, qm_len (by assumption)⟩ | exact qm_in8d (by assumption) (by assumption) | decide)) rfl kl_X5_62 kn_X5_place ke_X5_place ki_X5 kc_X5_place kd_X5_place rfl (by decide) (by decide) (Nat.le_of_ble_eq_true rfl) (fun v hp1 hv _ _ => ?_) (fun E hp' zx _ _ => zx.elim)
        obtain ⟨rfl, hS1, sM1⟩ := hv
        show qq_Go _ hp1 0 0 49 [(0, .ref 80), (1, .int i), (2, .int k9), (3, .int (S.1 k9.toNatClampNeg))] [] _ _
        refine qq_aload_n dX5_sort_49 rfl 0 rfl ?_
        refine qq_iload_n dX5_sort_50 rfl 2 rfl ?_
        refine qq_iconst (v := 1) dX5_sort_51 (by decide) ?_
        refine qq_isub dX5_sort_52 ?_
        refine qq_iload_n dX5_sort_53 rfl 3 rfl ?_
        refine qq_callV (bc := 0) (bs := 0) (mc := 0) (ms := 0) (o := 80) (ci := 2) (N := 6) (T := TX5) (as := [.int (k9 - 1), .int (S.1 k9.toNatClampNeg)]) (rest := []) dX5_sort_54 hS1.2.2.1 (by decide) rfl (mt_X5_place hp1 (r_X5_place k9 (S.1 (k9 - 1).toNatClampNeg) S) hS1 (k9 - 1) (S.1 k9.toNatClampNeg) (by first | assumption | exact ⟨by assumption, by assumption⟩ | exact qm_in8 (by assumption) (by assumption) | exact ⟨by assumption, qm_len (by assumption)⟩ | exact qm_in8d (by assumption) (by assumption) | decide)) rfl kl_X5_62 kn_X5_place ke_X5_place ki_X5 kc_X5_place kd_X5_place rfl (by decide) (by decide) (Nat.le_of_ble_eq_true rfl) (fun v hp2 hv _ _ => ?_) (fun E hp' zx _ _ => zx.elim)
        obtain ⟨rfl, hS2, sM2⟩ := hv
        show qq_Go _ hp2 0 0 57 [(0, .ref 80), (1, .int i), (2, .int k9), (3, .int (S.1 k9.toNatClampNeg))] [] _ _
        refine qq_iinc (v := k9 + (-1)) (loc' := [(0, .ref 80), (1, .int i), (2, .int (k9 + (-1))), (3, .int (S.1 k9.toNatClampNeg))]) dX5_sort_57 2 rfl rfl [1, 2, 0, 3] (Nat.le_of_ble_eq_true rfl) rfl ?_
        refine qq_goto (tgt := 14) dX5_sort_60 (by decide) ?_
        have ze : lr_X5_sort_14 i kx (fu + 1) k9 S = lr_X5_sort_14 i kx fu (k9 + (-1)) (r_X5_place (k9 - 1) (S.1 k9.toNatClampNeg) (r_X5_place k9 (S.1 (k9 - 1).toNatClampNeg) S)) := by
          rw [lr_X5_sort_14, if_neg zc1, if_neg zc2]
        rw [ze]
        refine qq_loc [0, 1, 2] rfl ?_
        have zk := lq_X5_sort_14 i kx hkx fu (k9 + (-1)) hp2 (r_X5_place (k9 - 1) (S.1 k9.toNatClampNeg) (r_X5_place k9 (S.1 (k9 - 1).toNatClampNeg) S)) hS2 (qm_in8e (by assumption) zk8) zi9 zi8 (qm_dn (by assumption) zh)
        exact qq_post (fun v hq z => ⟨z.1, z.2.1, sm_t (sm_t sM1 sM2) z.2.2⟩) (fun _ _ z => z.elim) zk
def lr_X5_sort_6  : Nat → Int32 → sX → Int32 × sX
  | 0, _, S => (0, S)
  | fu + 1, i, S => if 8 ≤ i then ((r_X5_countAct (r_X5_changedCells S) S).1, (r_X5_countAct (r_X5_changedCells S) S).2) else lr_X5_sort_14 i (fun Sk => lr_X5_sort_6 fu (i + 1) Sk) 9 i S
set_option maxRecDepth 4000 in
theorem lq_X5_sort_6    : ∀ (fu : Nat) (i : Int32) (hp : qq_H) (S : sX), cs_X S hp → ¬ i < 0 → ((8 : Int32).toInt - i.toInt).toNat < fu → qq_Go mX5_sort hp 0 0 6 [(0, .ref 80), (1, .int i)] [] (fun v hp' => v = some (.int ((lr_X5_sort_6 fu i S).1)) ∧ cs_X ((lr_X5_sort_6 fu i S).2) hp' ∧ sm_X hp hp') (fun _ _ => False)
  | 0, _, hp, _, _, _, zz => absurd zz (Nat.not_lt_zero _)
  | fu + 1, i, hp, S, hS, zi9, zh => by
    refine qq_iload_n dX5_sort_6 rfl 1 rfl ?_
    refine qq_bipush (v := 8) dX5_sort_7 (by decide) ?_
    refine qq_icmp_ge (tgt := 69) dX5_sort_9 (by decide) (fun zc1 => ?_) (fun zc1 => ?_)
    · refine qq_aload_n dX5_sort_69 rfl 0 rfl ?_
      refine qq_aload_n dX5_sort_70 rfl 0 rfl ?_
      refine qq_callV (bc := 0) (bs := 0) (mc := 0) (ms := 0) (o := 80) (ci := 2) (N := 6) (T := TX5) (as := []) (rest := [.ref 80]) dX5_sort_71 hS.2.2.1 (by decide) rfl (mt_X5_changedCells hp S hS ) rfl kl_X5_66 kn_X5_changedCells ke_X5_changedCells ki_X5 kc_X5_changedCells kd_X5_changedCells rfl (by decide) (by decide) (Nat.le_of_ble_eq_true rfl) (fun v hp' hv _ _ => ?_) (fun E hp' zx _ _ => zx.elim)
      obtain ⟨rfl, rfl⟩ := hv
      show qq_Go _ hp 0 0 74 [(0, .ref 80), (1, .int i)] [.int (r_X5_changedCells S), .ref 80] _ _
      refine qq_callV (bc := 0) (bs := 0) (mc := 0) (ms := 0) (o := 80) (ci := 2) (N := 6) (T := TX5) (as := [.int (r_X5_changedCells S)]) (rest := []) dX5_sort_74 hS.2.2.1 (by decide) rfl (mt_X5_countAct hp S hS (r_X5_changedCells S) ) rfl kl_X5_69 kn_X5_countAct ke_X5_countAct ki_X5 kc_X5_countAct kd_X5_countAct rfl (by decide) (by decide) (Nat.le_of_ble_eq_true rfl) (fun v hp1 hv _ _ => ?_) (fun E hp' zx _ _ => zx.elim)
      obtain ⟨rfl, hS1, sM1⟩ := hv
      show qq_Go _ hp1 0 0 77 [(0, .ref 80), (1, .int i)] [.int ((r_X5_countAct (r_X5_changedCells S) S).1)] _ _
      have ze : lr_X5_sort_6 (fu + 1) i S = ((r_X5_countAct (r_X5_changedCells S) S).1, (r_X5_countAct (r_X5_changedCells S) S).2) := by
        rw [lr_X5_sort_6, if_pos zc1]
      exact qq_iret dX5_sort_77 rfl rfl ⟨by rw [ze], by rw [ze]; exact hS1, sM1⟩
    · refine qq_iload_n dX5_sort_12 rfl 1 rfl ?_
      refine qq_istore_n (loc' := [(0, .ref 80), (1, .int i), (2, .int i)]) dX5_sort_13 rfl [1, 2, 0] (Nat.le_of_ble_eq_true rfl) rfl ?_
      have ze : lr_X5_sort_6 (fu + 1) i S = lr_X5_sort_14 i (fun Sk => lr_X5_sort_6 fu (i + 1) Sk) 9 i S := by
        rw [lr_X5_sort_6, if_neg zc1]
      rw [ze]
      exact lq_X5_sort_14 i (fun  Sk => lr_X5_sort_6 fu (i + 1) Sk) (fun  hpk Sk hSk => by
          refine qq_iinc (v := i + 1) (loc' := [(0, .ref 80), (1, .int (i + 1))]) dX5_sort_63 1 rfl rfl [1, 0] (Nat.le_of_ble_eq_true rfl) rfl ?_
          refine qq_goto (tgt := 6) dX5_sort_66 (by decide) ?_
          exact lq_X5_sort_6  fu (i + 1) hpk Sk hSk (qm_pos zi9 (by assumption)) (qm_up (by assumption) zh)) 9 i hp S hS (qm_in8 (by assumption) (by assumption)) (by assumption) (by assumption) (qm_fuD (by assumption) (by assumption))
def r_X5_sort  (S : sX) : Int32 × sX := lr_X5_sort_6 9 (1 : Int32) (r_X5_remember S)
set_option maxRecDepth 4000 in
theorem mt_X5_sort (hp : qq_H) (S : sX) (hS : cs_X S hp)   : qq_Mt mX5_sort [.ref 80] hp 0 0 (fun v hp' => v = some (.int ((r_X5_sort S).1)) ∧ cs_X ((r_X5_sort S).2) hp' ∧ sm_X hp hp') (fun _ _ => False) := by
  refine qq_met pn_X5 (Nat.le_of_ble_eq_true rfl) (Nat.le_of_ble_eq_true rfl) kc_X5_sort ?_
  show qq_Go _ hp 0 0 0 [(0, .ref 80)] [] _ _
  refine qq_aload_n dX5_sort_0 rfl 0 rfl ?_
  refine qq_callV (bc := 0) (bs := 0) (mc := 0) (ms := 0) (o := 80) (ci := 2) (N := 6) (T := TX5) (as := []) (rest := []) dX5_sort_1 hS.2.2.1 (by decide) rfl (mt_X5_remember hp S hS ) rfl kl_X5_59 kn_X5_remember ke_X5_remember ki_X5 kc_X5_remember kd_X5_remember rfl (by decide) (by decide) (Nat.le_of_ble_eq_true rfl) (fun v hp1 hv _ _ => ?_) (fun E hp' zx _ _ => zx.elim)
  obtain ⟨rfl, hS1, sM1⟩ := hv
  show qq_Go _ hp1 0 0 4 [(0, .ref 80)] [] _ _
  refine qq_iconst (v := 1) dX5_sort_4 (by decide) ?_
  refine qq_istore_n (loc' := [(0, .ref 80), (1, .int 1)]) dX5_sort_5 rfl [1, 0] (Nat.le_of_ble_eq_true rfl) rfl ?_
  have ze : r_X5_sort S = lr_X5_sort_6 9 (1 : Int32) (r_X5_remember S) := by
    rw [r_X5_sort]
  rw [ze]
  have zk := lq_X5_sort_6  9 (1 : Int32) hp1 (r_X5_remember S) hS1 (by decide) (by decide)
  exact qq_post (fun v hq z => ⟨z.1, z.2.1, sm_t sM1 z.2.2⟩) (fun _ _ z => z.elim) zk