theorem op_q {q : Int32} (h : ¬ q < -160 ∧ ¬ 160 < q) : f_asD (f_X4_digitsAt 1 q) = some (op_a q) ∧ f_asD (f_X4_digitsAt 1 (-q)) = some (op_a (-q)) ∧ okd (FP.dmul (op_a q) (op_a (-q))) = true ∧ f_sfo (FP.dmul (op_a q) (op_a (-q))) = some (op_r q) ∧ Op.cmpValue (FP.dcmp (op_r q) 4611686018427387904) .g ≤ 0 := by
  obtain ⟨h1, h2⟩ := h
  rw [Int32.lt_iff_toInt_lt] at h1 h2
  have e1 : (-160 : Int32).toInt = -160 := rfl
  have e2 : (160 : Int32).toInt = 160 := rfl
  have := opP_q (q := q) (by omega) (by omega)
  simp only [opP, Bool.and_eq_true, beq_iff_eq, decide_eq_true_eq] at this
  obtain ⟨⟨⟨⟨a1, a2⟩, a3⟩, a4⟩, a5⟩ := this
  exact ⟨a1, a2, a3, a4, a5⟩
def r_X5_opposite (q : Int32) (S : sX) : Int32 := if 0 < (Op.cmpValue (FP.dcmp (op_r q) 4611686018427387904) .g) then 0 else 1
theorem bz_X5_opposite (q : Int32) (S : sX) : r_X5_opposite q S = 0 ∨ r_X5_opposite q S = 1 := by
  unfold r_X5_opposite
  exact (qq_i01 (Or.inl rfl) (Or.inr rfl))
set_option maxRecDepth 4000 in
theorem mt_X5_opposite (hp : qq_H) (S : sX) (hS : cs_X S hp) (q : Int32)  : qq_Mt mX5_opposite [.ref 80, .int q] hp 1 6 (fun v hp' => v = some (.int (r_X5_opposite q S)) ∧ hp = hp' ∧ (¬ q < -160 ∧ ¬ 160 < q)) (fun E hp' => hp = hp' ∧ ((E = "java/lang/IllegalArgumentException" ∧ (q < -160 ∨ 160 < q)))) := by
  refine qq_met pn_X5 (Nat.le_of_ble_eq_true rfl) (Nat.le_of_ble_eq_true rfl) kc_X5_opposite ?_
  show qq_Go _ hp 1 6 0 [(0, .ref 80), (1, .int q)] [] _ _
  refine qq_iload_n dX5_opposite_0 rfl 1 rfl ?_
  refine qq_sipush (v := (-160)) dX5_opposite_1 (by decide) ?_
  refine qq_sipush (v := 160) dX5_opposite_4 (by decide) ?_
  refine qq_callS (bc := 0) (bs := 0) (mc := 1) (ms := 6) (as := [.int q, .int (-160), .int 160]) (rest := []) dX5_opposite_7 (mt_X5_checkRange hp q (-160 : Int32) (160 : Int32) ) rfl kl_X5_36 ks_X5_checkRange ki_X5 kc_X5_checkRange kd_X5_checkRange rfl (by decide) (by decide) (Nat.le_of_ble_eq_true rfl) (fun v hp' hv _ _ => ?_) (fun E hp' zx _ _ => by obtain ⟨rfl, rfl, zf⟩ := zx; exact qq_thr rfl ⟨rfl, ⟨rfl, zf⟩⟩)
  obtain ⟨rfl, rfl, zg1⟩ := hv
  have zg11 := zg1.1
  have zg12 := zg1.2
  show qq_Go _ hp 0 0 10 [(0, .ref 80), (1, .int q)] [] _ _
  refine qq_iconst (v := 1) dX5_opposite_10 (by decide) ?_
  refine qq_iload_n dX5_opposite_11 rfl 1 rfl ?_
  refine qq_callS (bc := 0) (bs := 0) (mc := 0) (ms := 0) (as := [.int 1, .int q]) (rest := []) dX5_opposite_12 (mt_X4_digitsAt hp (1 : Int32) q hS.1) rfl kl_X5_161 ks_X4_digitsAt ki_X4 kc_X4_digitsAt kd_X4_digitsAt rfl (by decide) (by decide) (Nat.le_of_ble_eq_true rfl) (fun v hp' hv _ _ => ?_) (fun E hp' zx _ _ => zx.elim)
  obtain ⟨rfl, rfl⟩ := hv
  show qq_Go _ hp 0 0 15 [(0, .ref 80), (1, .int q)] [.long (f_X4_digitsAt 1 q)] _ _
  obtain ⟨o1, o2, o3, o4, o5⟩ := op_q zg1
  refine qq_callS (bc := 0) (bs := 0) (mc := 0) (ms := 0) (as := [.long (f_X4_digitsAt 1 q)]) (rest := []) dX5_opposite_15 (mt_X1_asDouble hp (f_X4_digitsAt 1 q) (op_a q) o1) rfl kl_X5_189 ks_X1_asDouble ki_X1 kc_X1_asDouble kd_X1_asDouble rfl (by decide) (by decide) (Nat.le_of_ble_eq_true rfl) (fun v hp' hv _ _ => ?_) (fun E hp' zx _ _ => zx.elim)
  obtain ⟨rfl, rfl⟩ := hv
  show qq_Go _ hp 0 0 18 [(0, .ref 80), (1, .int q)] [.double (op_a q)] _ _
  refine qq_dstore_n (loc' := [(0, .ref 80), (1, .int q), (2, .double (op_a q))]) dX5_opposite_18 rfl [1, 2, 0] (Nat.le_of_ble_eq_true rfl) rfl ?_
  refine qq_iconst (v := 1) dX5_opposite_19 (by decide) ?_
  refine qq_iload_n dX5_opposite_20 rfl 1 rfl ?_
  refine qq_ineg dX5_opposite_21 ?_
  refine qq_callS (bc := 0) (bs := 0) (mc := 0) (ms := 0) (as := [.int 1, .int (-q)]) (rest := []) dX5_opposite_22 (mt_X4_digitsAt hp (1 : Int32) (-q) hS.1) rfl kl_X5_161 ks_X4_digitsAt ki_X4 kc_X4_digitsAt kd_X4_digitsAt rfl (by decide) (by decide) (Nat.le_of_ble_eq_true rfl) (fun v hp' hv _ _ => ?_) (fun E hp' zx _ _ => zx.elim)
  obtain ⟨rfl, rfl⟩ := hv
  show qq_Go _ hp 0 0 25 [(0, .ref 80), (1, .int q), (2, .double (op_a q))] [.long (f_X4_digitsAt 1 (-q))] _ _
  refine qq_callS (bc := 0) (bs := 0) (mc := 0) (ms := 0) (as := [.long (f_X4_digitsAt 1 (-q))]) (rest := []) dX5_opposite_25 (mt_X1_asDouble hp (f_X4_digitsAt 1 (-q)) (op_a (-q)) o2) rfl kl_X5_189 ks_X1_asDouble ki_X1 kc_X1_asDouble kd_X1_asDouble rfl (by decide) (by decide) (Nat.le_of_ble_eq_true rfl) (fun v hp' hv _ _ => ?_) (fun E hp' zx _ _ => zx.elim)
  obtain ⟨rfl, rfl⟩ := hv
  show qq_Go _ hp 0 0 28 [(0, .ref 80), (1, .int q), (2, .double (op_a q))] [.double (op_a (-q))] _ _
  refine qq_dstore (loc' := [(0, .ref 80), (1, .int q), (2, .double (op_a q)), (4, .double (op_a (-q)))]) dX5_opposite_28 [1, 2, 3, 0] (Nat.le_of_ble_eq_true rfl) rfl ?_
  refine qq_dload_n dX5_opposite_30 rfl 2 rfl ?_
  refine qq_dload dX5_opposite_31 3 rfl ?_
  refine qq_dmul dX5_opposite_33 (okd_n o3) ?_
  refine qq_callS (bc := 0) (bs := 0) (mc := 0) (ms := 0) (as := [.double (FP.dmul (op_a q) (op_a (-q)))]) (rest := []) dX5_opposite_34 (mt_X1_stepsFromOne hp (FP.dmul (op_a q) (op_a (-q))) (op_r q) o4) rfl kl_X5_193 ks_X1_stepsFromOne ki_X1 kc_X1_stepsFromOne kd_X1_stepsFromOne rfl (by decide) (by decide) (Nat.le_of_ble_eq_true rfl) (fun v hp' hv _ _ => ?_) (fun E hp' zx _ _ => zx.elim)
  obtain ⟨rfl, rfl⟩ := hv
  show qq_Go _ hp 0 0 37 [(0, .ref 80), (1, .int q), (2, .double (op_a q)), (4, .double (op_a (-q)))] [.double (op_r q)] _ _
  refine qq_ldc2d (v := 4611686018427387904) dX5_opposite_37 kl_X5_197 ?_
  refine qq_dcmp dX5_opposite_40 ?_
  refine qq_if_gt (tgt := 48) dX5_opposite_41 (by decide) (fun zc1 => ?_) (fun zc1 => ?_)
  · refine qq_iconst (v := 0) dX5_opposite_48 (by decide) ?_
    have ze : r_X5_opposite q S = 0 := by
      rw [r_X5_opposite, if_pos zc1]
    exact qq_iret dX5_opposite_49 rfl rfl ⟨by rw [ze], rfl, zg1⟩
  · refine qq_iconst (v := 1) dX5_opposite_44 (by decide) ?_
    refine qq_goto (tgt := 49) dX5_opposite_45 (by decide) ?_
    have ze : r_X5_opposite q S = 1 := by
      rw [r_X5_opposite, if_neg zc1]
    exact qq_iret dX5_opposite_49 rfl rfl ⟨by rw [ze], rfl, zg1⟩
def lr_X5_init_30  : Nat → Int32 → sX → sX
  | 0, _, S => S
  | fu + 1, i, S => if 8 ≤ i then S else lr_X5_init_30 fu (i + 1) (upd S.1 i.toNatClampNeg (f_X2_nought 0), vp_updL S.2.1 i.toNatClampNeg (f_X1_digitsOf (upd S.1 i.toNatClampNeg (f_X2_nought 0) i.toNatClampNeg)), S.2.2.1, S.2.2.2.1, S.2.2.2.2.1, S.2.2.2.2.2)
set_option maxRecDepth 4000 in
theorem lq_X5_init_30    : ∀ (fu : Nat) (i : Int32) (hp : qq_H) (S : sX), cs_X S hp → ¬ i < 0 → ((8 : Int32).toInt - i.toInt).toNat < fu → qq_Go mX5_init hp 0 0 30 [(0, .ref 80), (1, .int i)] [] (fun v hp' => v = none ∧ cs_X (lr_X5_init_30 fu i S) hp' ∧ sm_X hp hp') (fun _ _ => False)
  | 0, _, hp, _, _, _, zz => absurd zz (Nat.not_lt_zero _)
  | fu + 1, i, hp, S, hS, zp, zh => by
    refine qq_iload_n dX5_init_30 rfl 1 rfl ?_
    refine qq_bipush (v := 8) dX5_init_31 (by decide) ?_
    refine qq_icmp_ge (tgt := 67) dX5_init_33 (by decide) (fun zc1 => ?_) (fun zc1 => ?_)
    · have ze : lr_X5_init_30 (fu + 1) i S = S := by
        rw [lr_X5_init_30, if_pos zc1]
      exact qq_vret dX5_init_67 rfl ⟨rfl, by rw [ze]; exact hS, sm_r _⟩
    · refine qq_aload_n dX5_init_36 rfl 0 rfl ?_
      refine cx_get hS dX5_init_37 0 (by decide) rfl kl_X5_9 ?_
      refine qq_iload_n dX5_init_40 rfl 1 rfl ?_
      refine qq_iconst (v := 0) dX5_init_41 (by decide) ?_
      refine qq_callS (bc := 0) (bs := 0) (mc := 0) (ms := 0) (as := [.int 0]) (rest := [.int i, .ref 81]) dX5_init_42 (mt_X2_nought hp (0 : Int32)) rfl kl_X5_20 ks_X2_nought ki_X2 kc_X2_nought kd_X2_nought rfl (by decide) (by decide) (Nat.le_of_ble_eq_true rfl) (fun v hp' hv _ _ => ?_) (fun E hp' zx _ _ => zx.elim)
      obtain ⟨rfl, rfl⟩ := hv
      show qq_Go _ hp 0 0 45 [(0, .ref 80), (1, .int i)] [.int (f_X2_nought 0), .int i, .ref 81] _ _
      refine cx_st81 hS dX5_init_45 (by first | assumption | exact qm_in8 (by assumption) (by assumption) | exact qm_in8d (by assumption) (by assumption) | decide) (fun hp1 hS1 sM1 => ?_)
      replace hS1 : cs_X (upd S.1 i.toNatClampNeg (f_X2_nought 0), S.2.1, S.2.2.1, S.2.2.2.1, S.2.2.2.2.1, S.2.2.2.2.2) hp1 := hS1
      refine qq_aload_n dX5_init_46 rfl 0 rfl ?_
      refine cx_get hS1 dX5_init_47 1 (by decide) rfl kl_X5_13 ?_
      refine qq_iload_n dX5_init_50 rfl 1 rfl ?_
      refine qq_aload_n dX5_init_51 rfl 0 rfl ?_
      refine cx_get hS1 dX5_init_52 0 (by decide) rfl kl_X5_9 ?_
      refine qq_iload_n dX5_init_55 rfl 1 rfl ?_
      refine qq_iald dX5_init_56 hS1.2.2.2.1 (by first | assumption | exact qm_in8 (by assumption) (by assumption) | exact qm_in8d (by assumption) (by assumption) | decide) ?_
      refine qq_callS (bc := 0) (bs := 0) (mc := 0) (ms := 0) (as := [.int (upd S.1 i.toNatClampNeg (f_X2_nought 0) i.toNatClampNeg)]) (rest := [.int i, .ref 82]) dX5_init_57 (mt_X1_digitsOf hp1 (upd S.1 i.toNatClampNeg (f_X2_nought 0) i.toNatClampNeg) hS1.1) rfl kl_X5_26 ks_X1_digitsOf ki_X1 kc_X1_digitsOf kd_X1_digitsOf rfl (by decide) (by decide) (Nat.le_of_ble_eq_true rfl) (fun v hp' hv _ _ => ?_) (fun E hp' zx _ _ => zx.elim)
      obtain ⟨rfl, rfl⟩ := hv
      show qq_Go _ hp1 0 0 60 [(0, .ref 80), (1, .int i)] [.long (f_X1_digitsOf (upd S.1 i.toNatClampNeg (f_X2_nought 0) i.toNatClampNeg)), .int i, .ref 82] _ _
      refine cx_st82 hS1 dX5_init_60 (by first | assumption | exact qm_in8 (by assumption) (by assumption) | exact qm_in8d (by assumption) (by assumption) | decide) (fun hp2 hS2 sM2 => ?_)
      replace hS2 : cs_X (upd S.1 i.toNatClampNeg (f_X2_nought 0), vp_updL S.2.1 i.toNatClampNeg (f_X1_digitsOf (upd S.1 i.toNatClampNeg (f_X2_nought 0) i.toNatClampNeg)), S.2.2.1, S.2.2.2.1, S.2.2.2.2.1, S.2.2.2.2.2) hp2 := hS2
      refine qq_iinc (v := i + 1) (loc' := [(0, .ref 80), (1, .int (i + 1))]) dX5_init_61 1 rfl rfl [1, 0] (Nat.le_of_ble_eq_true rfl) rfl ?_
      refine qq_goto (tgt := 30) dX5_init_64 (by decide) ?_
      have ze : lr_X5_init_30 (fu + 1) i S = lr_X5_init_30 fu (i + 1) (upd S.1 i.toNatClampNeg (f_X2_nought 0), vp_updL S.2.1 i.toNatClampNeg (f_X1_digitsOf (upd S.1 i.toNatClampNeg (f_X2_nought 0) i.toNatClampNeg)), S.2.2.1, S.2.2.2.1, S.2.2.2.2.1, S.2.2.2.2.2) := by
        rw [lr_X5_init_30, if_neg zc1]
      rw [ze]
      have zk := lq_X5_init_30  fu (i + 1) hp2 (upd S.1 i.toNatClampNeg (f_X2_nought 0), vp_updL S.2.1 i.toNatClampNeg (f_X1_digitsOf (upd S.1 i.toNatClampNeg (f_X2_nought 0) i.toNatClampNeg)), S.2.2.1, S.2.2.2.1, S.2.2.2.2.1, S.2.2.2.2.2) hS2 (qm_pos zp (by assumption)) (qm_up (by assumption) zh)
      exact qq_post (fun v hq z => ⟨z.1, z.2.1, sm_t (sm_t sM1 sM2) z.2.2⟩) (fun _ _ z => z.elim) zk
def r_X5_init  (S : sX) : sX := lr_X5_init_30 9 (0 : Int32) S
set_option maxRecDepth 4000 in
theorem go_X5_init (hp : qq_H) (S : sX) (hS : cs_X S hp)   : qq_Go mX5_init hp 0 0 28 [(0, .ref 80)] [] (fun v hp' => v = none ∧ cs_X (r_X5_init S) hp' ∧ sm_X hp hp') (fun _ _ => False) := by
  show qq_Go _ hp 0 0 28 [(0, .ref 80)] [] _ _
  refine qq_iconst (v := 0) dX5_init_28 (by decide) ?_
  refine qq_istore_n (loc' := [(0, .ref 80), (1, .int 0)]) dX5_init_29 rfl [1, 0] (Nat.le_of_ble_eq_true rfl) rfl ?_
  have ze : r_X5_init S = lr_X5_init_30 9 (0 : Int32) S := by
    rw [r_X5_init]
  rw [ze]
  exact lq_X5_init_30  9 (0 : Int32) hp S hS (by decide) (by decide)
def cX0 : sX := ((fun _ => 0), (fun _ => 0), (fun _ => 0), 0, 0, 0)
set_option maxRecDepth 4000 in
theorem mt_X5_init (hp : qq_H) (h81 : hp.1 = 81) (hE : qq_ex hp) (h80 : hp.2 80 = .inr (2, [.null, .null, .null, .int 0, .int 0, .int 0])) : qq_Mt mX5_init [.ref 80] hp 3 24 (fun v hp' => v = none ∧ cs_X (r_X5_init cX0) hp' ∧ hp'.1 = 84 ∧ ∀ j, j < 80 → hp'.2 j = hp.2 j) (fun _ _ => False) := by
  refine qq_met pn_X5 (Nat.le_of_ble_eq_true rfl) (Nat.le_of_ble_eq_true rfl) kc_X5_init ?_
  show qq_Go _ hp 3 24 0 [(0, .ref 80)] [] _ _
  refine qq_aload_n dX5_init_0 rfl 0 rfl ?_
  refine qq_objI dX5_init_1 kl_X5_1 kn_obj kc_obj (Nat.le_of_ble_eq_true rfl) ?_
  have zc0 : ∀ j, j < 80 → hp.2 j = hp.2 j := fun _ _ => rfl
  refine qq_aload_n dX5_init_4 rfl 0 rfl ?_
  refine qq_bipush (v := 8) dX5_init_5 (by decide) ?_
  refine qq_newI (bc := 2) (bs := 16) (N' := 8) (ms := 8) dX5_init_7 (by decide) rfl (Nat.le_of_ble_eq_true rfl) (Nat.le_refl _) ?_ ka_int
  obtain ⟨Hb1, he1⟩ : ∃ h : qq_H, qq_nw hp (.inl (0, 8, .inl (fun _ => 0))) = h := ⟨_, rfl⟩
  refine qq_hp (hp2 := Hb1) he1 ?_
  have zk1 : ∀ j, j < 81 → Hb1.2 j = hp.2 j := fun j hj => by rw [← he1]; exact up_o (show j ≠ hp.1 by omega) rfl
  have zn1 : Hb1.2 81 = .inl (0, 8, .inl (fun _ => 0)) := by rw [← he1, ← h81]; exact up_s
  have zs1 : Hb1.1 = 82 := by rw [← he1]; show hp.1 + 1 = _; omega
  have zo1 : Hb1.2 80 = .inr (2, [.null, .null, .null, .int 0, .int 0, .int 0]) := (zk1 80 (by decide)).trans h80
  have zc1 : ∀ j, j < 80 → Hb1.2 j = hp.2 j := fun j hj => (zk1 j (by omega)).trans (zc0 j hj)
  rw [show hp.1 = 81 by omega]
  refine qq_putF (C := RX5) (T := TX5) (N := 6) (ty := .array .int) dX5_init_9 zo1 (by decide) rfl 0 (by decide) (Nat.le_of_ble_eq_true rfl) ku_X5 kl_X5_9 tyX5 tyX5_ok nmX5 rfl rfl rfl (by decide +kernel) (fun _ => rfl) (fun _ => rfl) ?_
  obtain ⟨Hb2, he2⟩ : ∃ h : qq_H, (Hb1.1, va_up Hb1.2 80 (.inr (2, ([.null, .null, .null, .int 0, .int 0, .int 0] : List Value).set 0 (.ref 81)))) = h := ⟨_, rfl⟩
  refine qq_hp (hp2 := Hb2) he2 ?_
  have zk2 : ∀ j, j ≠ 80 → Hb2.2 j = Hb1.2 j := fun j hj => by rw [← he2]; exact up_o hj rfl
  have zo2 : Hb2.2 80 = .inr (2, [.ref 81, .null, .null, .int 0, .int 0, .int 0]) := by rw [← he2]; exact up_p
  have zs2 : Hb2.1 = 82 := by rw [← he2]; exact zs1
  have zc2 : ∀ j, j < 80 → Hb2.2 j = hp.2 j := fun j hj => (zk2 j (by omega)).trans (zc1 j hj)
  have zf2_81 : Hb2.2 81 = .inl (0, 8, .inl (fun _ => 0)) := (zk2 81 (by decide)).trans zn1
  refine qq_aload_n dX5_init_12 rfl 0 rfl ?_
  refine qq_bipush (v := 8) dX5_init_13 (by decide) ?_
  refine qq_newJ (bc := 1) (bs := 8) (N' := 8) (ms := 8) dX5_init_15 (by decide) rfl (Nat.le_of_ble_eq_true rfl) (Nat.le_refl _) ?_ ka_long
  obtain ⟨Hb3, he3⟩ : ∃ h : qq_H, qq_nw Hb2 (.inl (1, 8, .inr (.inl (fun _ => 0)))) = h := ⟨_, rfl⟩
  refine qq_hp (hp2 := Hb3) he3 ?_
  have zk3 : ∀ j, j < 82 → Hb3.2 j = Hb2.2 j := fun j hj => by rw [← he3]; exact up_o (show j ≠ Hb2.1 by omega) rfl
  have zn3 : Hb3.2 82 = .inl (1, 8, .inr (.inl (fun _ => 0))) := by rw [← he3, ← zs2]; exact up_s
  have zs3 : Hb3.1 = 83 := by rw [← he3]; show Hb2.1 + 1 = _; omega
  have zf3_81 : Hb3.2 81 = .inl (0, 8, .inl (fun _ => 0)) := (zk3 81 (by decide)).trans zf2_81
  have zo3 : Hb3.2 80 = .inr (2, [.ref 81, .null, .null, .int 0, .int 0, .int 0]) := (zk3 80 (by decide)).trans zo2
  have zc3 : ∀ j, j < 80 → Hb3.2 j = hp.2 j := fun j hj => (zk3 j (by omega)).trans (zc2 j hj)
  rw [show Hb2.1 = 82 by omega]
  refine qq_putF (C := RX5) (T := TX5) (N := 6) (ty := .array .long) dX5_init_17 zo3 (by decide) rfl 1 (by decide) (Nat.le_of_ble_eq_true rfl) ku_X5 kl_X5_13 tyX5 tyX5_ok nmX5 rfl rfl rfl (by decide +kernel) (fun _ => rfl) (fun _ => rfl) ?_
  obtain ⟨Hb4, he4⟩ : ∃ h : qq_H, (Hb3.1, va_up Hb3.2 80 (.inr (2, ([.ref 81, .null, .null, .int 0, .int 0, .int 0] : List Value).set 1 (.ref 82)))) = h := ⟨_, rfl⟩
  refine qq_hp (hp2 := Hb4) he4 ?_
  have zk4 : ∀ j, j ≠ 80 → Hb4.2 j = Hb3.2 j := fun j hj => by rw [← he4]; exact up_o hj rfl
  have zo4 : Hb4.2 80 = .inr (2, [.ref 81, .ref 82, .null, .int 0, .int 0, .int 0]) := by rw [← he4]; exact up_p
  have zs4 : Hb4.1 = 83 := by rw [← he4]; exact zs3
  have zc4 : ∀ j, j < 80 → Hb4.2 j = hp.2 j := fun j hj => (zk4 j (by omega)).trans (zc3 j hj)
  have zf4_81 : Hb4.2 81 = .inl (0, 8, .inl (fun _ => 0)) := (zk4 81 (by decide)).trans zf3_81
  have zf4_82 : Hb4.2 82 = .inl (1, 8, .inr (.inl (fun _ => 0))) := (zk4 82 (by decide)).trans zn3
  refine qq_aload_n dX5_init_20 rfl 0 rfl ?_
  refine qq_bipush (v := 8) dX5_init_21 (by decide) ?_
  refine qq_newI (bc := 0) (bs := 0) (N' := 8) (ms := 8) dX5_init_23 (by decide) rfl (Nat.le_of_ble_eq_true rfl) (Nat.le_refl _) ?_ ka_int
  obtain ⟨Hb5, he5⟩ : ∃ h : qq_H, qq_nw Hb4 (.inl (0, 8, .inl (fun _ => 0))) = h := ⟨_, rfl⟩
  refine qq_hp (hp2 := Hb5) he5 ?_
  have zk5 : ∀ j, j < 83 → Hb5.2 j = Hb4.2 j := fun j hj => by rw [← he5]; exact up_o (show j ≠ Hb4.1 by omega) rfl
  have zn5 : Hb5.2 83 = .inl (0, 8, .inl (fun _ => 0)) := by rw [← he5, ← zs4]; exact up_s
  have zs5 : Hb5.1 = 84 := by rw [← he5]; show Hb4.1 + 1 = _; omega
  have zf5_81 : Hb5.2 81 = .inl (0, 8, .inl (fun _ => 0)) := (zk5 81 (by decide)).trans zf4_81
  have zf5_82 : Hb5.2 82 = .inl (1, 8, .inr (.inl (fun _ => 0))) := (zk5 82 (by decide)).trans zf4_82
  have zo5 : Hb5.2 80 = .inr (2, [.ref 81, .ref 82, .null, .int 0, .int 0, .int 0]) := (zk5 80 (by decide)).trans zo4
  have zc5 : ∀ j, j < 80 → Hb5.2 j = hp.2 j := fun j hj => (zk5 j (by omega)).trans (zc4 j hj)
  rw [show Hb4.1 = 83 by omega]
  refine qq_putF (C := RX5) (T := TX5) (N := 6) (ty := .array .int) dX5_init_25 zo5 (by decide) rfl 2 (by decide) (Nat.le_of_ble_eq_true rfl) ku_X5 kl_X5_17 tyX5 tyX5_ok nmX5 rfl rfl rfl (by decide +kernel) (fun _ => rfl) (fun _ => rfl) ?_
  obtain ⟨Hb6, he6⟩ : ∃ h : qq_H, (Hb5.1, va_up Hb5.2 80 (.inr (2, ([.ref 81, .ref 82, .null, .int 0, .int 0, .int 0] : List Value).set 2 (.ref 83)))) = h := ⟨_, rfl⟩
  refine qq_hp (hp2 := Hb6) he6 ?_
  have zk6 : ∀ j, j ≠ 80 → Hb6.2 j = Hb5.2 j := fun j hj => by rw [← he6]; exact up_o hj rfl
  have zo6 : Hb6.2 80 = .inr (2, [.ref 81, .ref 82, .ref 83, .int 0, .int 0, .int 0]) := by rw [← he6]; exact up_p
  have zs6 : Hb6.1 = 84 := by rw [← he6]; exact zs5
  have zc6 : ∀ j, j < 80 → Hb6.2 j = hp.2 j := fun j hj => (zk6 j (by omega)).trans (zc5 j hj)
  have zf6_81 : Hb6.2 81 = .inl (0, 8, .inl (fun _ => 0)) := (zk6 81 (by decide)).trans zf5_81
  have zf6_82 : Hb6.2 82 = .inl (1, 8, .inr (.inl (fun _ => 0))) := (zk6 82 (by decide)).trans zf5_82
  have zf6_83 : Hb6.2 83 = .inl (0, 8, .inl (fun _ => 0)) := (zk6 83 (by decide)).trans zn5
  have hX : qq_ex Hb6 := ⟨by omega, fun k a b => (zc6 k b).trans (hE.2 k a b)⟩
  have hS : cs_X cX0 Hb6 := ⟨hX, by omega, zo6, zf6_81, zf6_82, zf6_83⟩
  refine qq_post (fun v hq z => ⟨z.1, z.2.1, ?_, ?_⟩) (fun _ _ z => z.elim) (go_X5_init Hb6 cX0 hS)
  · rw [z.2.2.1]; exact zs6
  · exact fun j hj => (z.2.2.2 j (Or.inl hj)).trans (zc6 j hj)
