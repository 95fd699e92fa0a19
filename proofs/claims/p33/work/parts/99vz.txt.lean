set_option maxRecDepth 4000 in
theorem mt_X5_text (hp : qq_H) (S : sX) (hS : cs_X S hp) (cell : Int32) : qq_Mt mX5_text [.ref 80, .int cell] hp 5 46 (fun v hp' => (∃ r, v = some (.ref r)) ∧ cs_X S hp' ∧ hp'.1 = hp.1 + 4 ∧ (∀ j : Nat, j < hp.1 → hp'.2 j = hp.2 j) ∧ (¬ cell < 0 ∧ ¬ 8 ≤ cell)) (fun E hp' => hp = hp' ∧ E = "java/lang/IndexOutOfBoundsException" ∧ (cell < 0 ∨ 8 ≤ cell)) := by
  refine qq_met pn_X5 (Nat.le_of_ble_eq_true rfl) (Nat.le_of_ble_eq_true rfl) kc_X5_text ?_
  show qq_Go _ hp 5 46 0 [(0, .ref 80), (1, .int cell)] [] _ _
  refine qq_iload_n dX5_text_0 rfl 1 rfl ?_
  refine qq_callS (bc := 4) (bs := 40) (mc := 1) (ms := 6) (as := [.int cell]) (rest := []) dX5_text_1 (mt_X5_checkCell hp cell) rfl kl_X5_32 ks_X5_checkCell ki_X5 kc_X5_checkCell kd_X5_checkCell rfl (by decide) (by decide) (Nat.le_of_ble_eq_true rfl) (fun v hp1 hv _ _ => ?_) (fun E hp1 zx _ _ => qq_thr rfl zx)
  obtain ⟨rfl, rfl, zg⟩ := hv
  show qq_Go _ hp 4 40 4 [(0, .ref 80), (1, .int cell)] [] _ _
  refine qq_aload_n dX5_text_4 rfl 0 rfl ?_
  refine cx_get hS dX5_text_5 0 (by decide) rfl kl_X5_9 ?_
  refine qq_iload_n dX5_text_8 rfl 1 rfl ?_
  refine qq_iald dX5_text_9 hS.2.2.2.1 (qm_in8 zg.1 zg.2) ?_
  refine qq_callS (bc := 0) (bs := 0) (mc := 4) (ms := 40) (as := [.int (S.1 cell.toNatClampNeg)]) (rest := []) dX5_text_10 (mt_textOf hp _ hS.1) rfl kl_X5_129 ks_X2_textOf ki_X2 kc_X2_textOf kd_X2_textOf rfl (by decide) (by decide) (Nat.le_of_ble_eq_true rfl) (fun v hp1 hv _ _ => ?_) (fun E hp1 zx _ _ => zx.elim)
  obtain ⟨rfl, z1, z2⟩ := hv
  exact qq_aret dX5_text_13 rfl (Or.inl ⟨_, rfl⟩) (Or.inr ⟨_, rfl⟩) ⟨⟨_, rfl⟩, cs_g hS (by omega) z2, z1, z2, zg⟩
set_option maxRecDepth 4000 in
theorem mt_L_text (hp : qq_H) (S : sX) (hS : cs_X S hp) (o : Nat) (n : Int64) (sv : Value) (ho : hp.2 o = .inr (3, [.long n, sv])) (hoE : 84 ≤ o) (hoL : o < hp.1) (cell : Int32) : qq_Mt mL_text [.ref 80, .int cell, .ref o] hp 5 46 (fun v hp' => ∃ (k : Int32) (sv' : Value), v = some (.int k) ∧ cs_X S hp' ∧ hp'.2 o = .inr (3, [.long n, sv']) ∧ hp.1 ≤ hp'.1 ∧ (∀ j : Nat, j < hp.1 → j ≠ o → hp'.2 j = hp.2 j) ∧ ((k = 0 ∧ (¬ cell < 0 ∧ ¬ 8 ≤ cell)) ∨ (k = 1 ∧ (cell < 0 ∨ 8 ≤ cell)))) (fun _ _ => False) := by
  refine qq_met pn_L (Nat.le_of_ble_eq_true rfl) (Nat.le_of_ble_eq_true rfl) kc_L_text ?_
  show qq_Go _ hp 5 46 0 [(0, .ref 80), (1, .int cell), (2, .ref o)] [] _ _
  refine qq_aload_n dL_text_0 rfl 2 rfl ?_
  refine qq_aload_n dL_text_1 rfl 0 rfl ?_
  refine qq_iload_n dL_text_2 rfl 1 rfl ?_
  refine qq_callV (bc := 0) (bs := 0) (mc := 5) (ms := 46) (o := 80) (ci := 2) (N := 6) (T := TX5) (as := [.int cell]) (rest := [.ref o]) dL_text_3 hS.2.2.1 (by decide) rfl (mt_X5_text hp S hS cell) rfl kl_L_102 kn_X5_text ke_X5_text ki_X5 kc_X5_text kd_X5_text rfl (by decide) (by decide) (Nat.le_of_ble_eq_true rfl) (fun v hp1 hv _ _ => ?_) (fun E hp1 zx _ _ => ?_)
  · obtain ⟨⟨r, rfl⟩, hS1, z1, z2, zg⟩ := hv
    have ho1 : hp1.2 o = .inr (3, [.long n, sv]) := (z2 o hoL).trans ho
    refine qq_putN (C := RX6) (host := "QuarterpowersLaw") (T := TX6) (N := 2) (ty := .object "java/lang/String") dL_text_6 ho1 (show 80 ≤ o by omega) rfl 1 (by decide) (Nat.le_of_ble_eq_true rfl) ku_X6 (by decide +kernel) tyX6 tyX6_ok nmX6 rfl (by decide +kernel) (fun _ => rfl) (fun _ => rfl) ?_
    refine qq_goto (tgt := 15) dL_text_9 (by decide) ?_
    refine qq_iconst (v := 0) dL_text_15 (by decide) ?_
    exact qq_iret dL_text_16 rfl rfl ⟨0, .ref r, rfl, cs_up hS1 hoE, up_p, by show hp.1 ≤ hp1.1; omega, fun j hj hn => (up_o hn rfl).trans (z2 j hj), Or.inl ⟨rfl, zg⟩⟩
  · obtain ⟨rfl, rfl, zf⟩ := zx
    refine qq_catch (name := "java/lang/IndexOutOfBoundsException") (n := 12) (loc' := [(0, .ref 80), (1, .int cell), (2, .ref o)]) [] (0, 9, 12, 19) [] rfl (fun z hz => nomatch hz) (fun z hz => by obtain rfl := List.mem_singleton.mp hz; exact ⟨rfl, by decide, kl_L_19, rfl⟩) rfl rfl (by decide +kernel) (i := 3) (ln := 1) [0, 1, 2] (Or.inl ⟨dL_text_12, by decide, rfl⟩) (Nat.le_of_ble_eq_true rfl) rfl ?_
    refine qq_iconst (v := 1) dL_text_13 (by decide) ?_
    exact qq_iret dL_text_14 rfl rfl ⟨1, sv, rfl, hS, ho, Nat.le_refl _, fun _ _ _ => rfl, Or.inr ⟨rfl, zf⟩⟩
set_option maxRecDepth 4000 in
theorem go_X7_text (hp : qq_H) (A : qA) (S : sM) (hS : ms_M A S hp) (zI : IM S) (cell x9 : Int32) (hv8 : x9 = 0 → vp_in cell 8) : qq_Go mX7_text hp 4 40 9 [(0, .ref 84), (1, .int cell)] [.int x9] (fun v hp' => (∃ r, v = some (.ref r)) ∧ ms_M A S hp' ∧ fr A hp hp') (fun _ _ => False) := by
  have hE := hS.1
  have h419 := hS.2.1
  obtain ⟨⟨_, u1⟩, ⟨_, u2⟩, ⟨_, u3⟩, _⟩ := hS.2.2.2.2.2.2.1
  refine qq_if_eq (tgt := 15) dX7_text_9 (by decide) (fun zc1 => ?_) (fun zc1 => ?_)
  · have zv := hv8 (by assumption)
    refine qq_aload_n dX7_text_15 rfl 0 rfl ?_
    refine qq_get (C := RX7) (T := TX7) (N := 11) dX7_text_16 hS.2.2.1 rfl 6 (by decide) rfl ku_X7 kl_X7_34 ?_
    refine qq_iload_n dX7_text_19 rfl 1 rfl ?_
    refine qq_zald dX7_text_20 hS.2.2.2.2.2.1 zv ?_
    refine qq_if_eq (tgt := 29) dX7_text_21 (by decide) (fun zc2 => ?_) (fun zc2 => ?_)
    · refine qq_ldcs (tx := "") (a := 40) dX7_text_29 (by decide +kernel) ?_
      have y1 : tst 40 50 0 sb40 hp := tst_40 hE
      refine qq_astore_n (loc' := [(0, .ref 84), (1, .int cell), (2, .ref 40)]) dX7_text_31 rfl [1, 2, 0] (Nat.le_of_ble_eq_true rfl) rfl ?_
      refine qq_aload_n dX7_text_32 rfl 0 rfl ?_
      refine qq_get (C := RX7) (T := TX7) (N := 11) dX7_text_33 hS.2.2.1 rfl 4 (by decide) rfl ku_X7 kl_X7_28 ?_
      refine qq_iload_n dX7_text_36 rfl 1 rfl ?_
      refine qq_iald dX7_text_37 hS.2.2.2.1 zv ?_
      refine qq_iconst (v := 1) dX7_text_38 (by decide) ?_
      refine qq_icmp_ne (tgt := 62) dX7_text_39 (by decide) (fun zc3 => ?_) (fun zc3 => ?_)
      · refine qq_aload_n dX7_text_62 rfl 0 rfl ?_
        refine qq_iload_n dX7_text_63 rfl 1 rfl ?_
        refine qq_callVS (bc := 4) (bs := 40) (mc := 0) (ms := 0) (as := [.int cell]) (rest := []) (o := 84) (ci := 4) (N := 11) (T := TX7) dX7_text_64 hS.2.2.1 rfl (mt_X7_isNought hp A S hS cell zv) rfl kl_X7_109 kn_X7_isNought ke_X7_isNought ki_X7 kc_X7_isNought kd_X7_isNought rfl (by decide) (by decide) (Nat.le_of_ble_eq_true rfl) (fun v H1 hv _ _ => ?_) (fun E hp' zx _ _ => zx.elim)
        obtain ⟨rfl, rfl⟩ := hv
        show qq_Go _ hp 4 40 67 [(0, .ref 84), (1, .int cell), (2, .ref 40)] [.int (r_X7_isNought cell S)] _ _
        refine qq_if_eq (tgt := 92) dX7_text_67 (by decide) (fun zc4 => ?_) (fun zc4 => ?_)
        · refine qq_new (ci := 1) (N := 4) (C := RJ4) (T := TJ4) (fs := [.null, .int 0, .int 0, .int 0]) (bc := 3) (bs := 36) (ms := 4) dX7_text_92 rfl ku_J4 tyJ4 tyJ4_ok kl_X7_214 kx_J4 ki_J4 (by decide +kernel) new_w (by decide) ?_
          obtain ⟨H2, he2⟩ : ∃ h : qq_H, (hp.1 + 1, va_up hp.2 hp.1 (.inr (1, [.null, .int 0, .int 0, .int 0]))) = h := ⟨_, rfl⟩
          refine qq_hp (hp2 := H2) he2 ?_
          have zk2 : ∀ j : Nat, j ≠ hp.1 → H2.2 j = hp.2 j := fun j d0 => by rw [← he2]; exact up_o d0 rfl
          have zs2 : H2.1 = hp.1 + 1 := by rw [← he2]
          have q2_0 : H2.2 7 = .inl (3, 100, .inl t_d1) := (zk2 7 (by omega)).trans (hE.2 7 (by decide) (by decide))
          have q2_1 : H2.2 8 = .inl (3, 100, .inl t_d2) := (zk2 8 (by omega)).trans (hE.2 8 (by decide) (by decide))
          have q2_2 : H2.2 84 = .inr (4, [.ref 85, .ref 86, .ref 89, .ref 90, .ref A.1, .ref A.2.1, .ref A.2.2, .int S.2.2.2.1, .int S.2.2.2.2.1, .int S.2.2.2.2.2.1, .int S.2.2.2.2.2.2]) := (zk2 84 (by omega)).trans hS.2.2.1
          have q2_3 : H2.2 A.1 = .inl (0, 8, .inl S.1) := (zk2 A.1 (by omega)).trans hS.2.2.2.1
          have q2_4 : H2.2 A.2.1 = .inl (0, 8, .inl S.2.1) := (zk2 A.2.1 (by omega)).trans hS.2.2.2.2.1
          have q2_5 : H2.2 A.2.2 = .inl (2, 8, .inl S.2.2.1) := (zk2 A.2.2 (by omega)).trans hS.2.2.2.2.2.1
          have q2_6 : H2.2 40 = .inr (0, [.ref 50, .int 0]) := (zk2 40 (by omega)).trans y1.1
          have q2_7 : H2.2 50 = .inl (3, 0, .inl sb40) := (zk2 50 (by omega)).trans y1.2.1
          have q2_8 : H2.2 hp.1 = .inr (1, [.null, .int 0, .int 0, .int 0]) := by rw [← he2]; exact up_p
          have zf2 : ∀ j : Nat, j < hp.1 → H2.2 j = hp.2 j := fun j h0 => (zk2 j (by omega)).trans rfl
          show qq_Go _ H2 3 36 95 [(0, .ref 84), (1, .int cell), (2, .ref 40)] [.ref hp.1] _ _
          refine qq_dup dX7_text_95 rfl ?_
          refine qq_callI (bc := 2) (bs := 20) (mc := 1) (ms := 16) (as := []) (rest := [.ref hp.1]) (o := hp.1) dX7_text_96 (mt_sbi H2 _ (by omega) (by omega) q2_8) rfl rfl rfl kl_X7_216 kn_J4_init_da8c8 ki_J4 kc_J4_init_da8c8 kd_J4_init_da8c8 rfl (by decide) (by decide) (Nat.le_of_ble_eq_true rfl) (fun v H3 hv _ _ => ?_) (fun E hp' zx _ _ => zx.elim)
          obtain ⟨rfl, ⟨qb3, g3, qw3, bg3⟩, zz3, zk3⟩ := hv
          rw [zs2] at qb3 qw3
          have zs3 : H3.1 = hp.1 + 2 := by omega
          replace zk3 : ∀ j : Nat, j < hp.1 + 1 → j ≠ hp.1 → H3.2 j = H2.2 j := fun j a b => zk3 j (by omega) b
          have q3_0 : H3.2 7 = .inl (3, 100, .inl t_d1) := (zk3 7 (by omega) (by omega)).trans q2_0
          have q3_1 : H3.2 8 = .inl (3, 100, .inl t_d2) := (zk3 8 (by omega) (by omega)).trans q2_1
          have q3_2 : H3.2 84 = .inr (4, [.ref 85, .ref 86, .ref 89, .ref 90, .ref A.1, .ref A.2.1, .ref A.2.2, .int S.2.2.2.1, .int S.2.2.2.2.1, .int S.2.2.2.2.2.1, .int S.2.2.2.2.2.2]) := (zk3 84 (by omega) (by omega)).trans q2_2
          have q3_3 : H3.2 A.1 = .inl (0, 8, .inl S.1) := (zk3 A.1 (by omega) (by omega)).trans q2_3
          have q3_4 : H3.2 A.2.1 = .inl (0, 8, .inl S.2.1) := (zk3 A.2.1 (by omega) (by omega)).trans q2_4
          have q3_5 : H3.2 A.2.2 = .inl (2, 8, .inl S.2.2.1) := (zk3 A.2.2 (by omega) (by omega)).trans q2_5
          have q3_6 : H3.2 40 = .inr (0, [.ref 50, .int 0]) := (zk3 40 (by omega) (by omega)).trans q2_6
          have q3_7 : H3.2 50 = .inl (3, 0, .inl sb40) := (zk3 50 (by omega) (by omega)).trans q2_7
          have zf3 : ∀ j : Nat, j < hp.1 → H3.2 j = hp.2 j := fun j h0 => (zk3 j (by omega) (by omega)).trans (zf2 j h0)
          show qq_Go _ H3 2 20 99 [(0, .ref 84), (1, .int cell), (2, .ref 40)] [.ref hp.1] _ _
          refine qq_gets (C := "QuarterpowersModel") (nm := "NAMES") (d := "[Ljava/lang/String;") (v := .ref 6) dX7_text_99 (by decide +kernel) kl_X7_229 ?_
          refine qq_aload_n dX7_text_102 rfl 0 rfl ?_
          refine qq_get (C := RX7) (T := TX7) (N := 11) dX7_text_103 q3_2 rfl 4 (by decide) rfl ku_X7 kl_X7_28 ?_
          refine qq_iload_n dX7_text_106 rfl 1 rfl ?_
          refine qq_iald dX7_text_107 q3_3 zv ?_
          obtain ⟨r1, r2, s9, v9, L9, f9, r3, r4, r5, r6⟩ := nm_s (zI _ (vp_lt zv)) (by assumption)
          have y9 : tst s9 v9 L9 f9 H3 := (r6 hp hE).g hE.1 zf3
          refine qq_aald dX7_text_108 ((zf3 6 (by omega)).trans (hE.2 6 (by decide) (by decide))) (Or.inr ⟨rfl, by decide⟩) r1 ?_
          rw [r3]
          have w4 := y9.2.2.2.1
          have w5 := y9.2.2.2.2
          show qq_Go _ H3 2 20 109 [(0, .ref 84), (1, .int cell), (2, .ref 40)] [.ref s9, .ref hp.1] _ _
          refine qq_callVS (bc := 2) (bs := 20) (mc := 0) (ms := 0) (as := [.ref s9]) (rest := []) (o := hp.1) (ci := 1) (N := 4) (T := TJ4) dX7_text_109 qb3 rfl (mt_aps H3 _ _ _ _ (by omega) (by omega) y9.1 y9.2.1 y9.2.2.1 _ _ _ _ _ bg3 (by omega) (by omega) (by omega) qb3 qw3 (by omega)) rfl kl_X7_217 kn_J4_append_15ec4 ke_J4_append_15ec4 ki_J4 kc_J4_append_15ec4 kd_J4_append_15ec4 rfl (by decide) (by decide) (Nat.le_of_ble_eq_true rfl) (fun v H4 hv _ _ => ?_) (fun E hp' zx _ _ => zx.elim)
          obtain ⟨rfl, ⟨qb4, g4, qw4, bg4⟩, zz4, zk4⟩ := hv
          have zs4 : H4.1 = hp.1 + 2 := by omega
          have q4_0 : H4.2 7 = .inl (3, 100, .inl t_d1) := (zk4 7 (by omega) (by omega)).trans q3_0
          have q4_1 : H4.2 8 = .inl (3, 100, .inl t_d2) := (zk4 8 (by omega) (by omega)).trans q3_1
          have q4_2 : H4.2 84 = .inr (4, [.ref 85, .ref 86, .ref 89, .ref 90, .ref A.1, .ref A.2.1, .ref A.2.2, .int S.2.2.2.1, .int S.2.2.2.2.1, .int S.2.2.2.2.2.1, .int S.2.2.2.2.2.2]) := (zk4 84 (by omega) (by omega)).trans q3_2
          have q4_3 : H4.2 A.1 = .inl (0, 8, .inl S.1) := (zk4 A.1 (by omega) (by omega)).trans q3_3
          have q4_4 : H4.2 A.2.1 = .inl (0, 8, .inl S.2.1) := (zk4 A.2.1 (by omega) (by omega)).trans q3_4
          have q4_5 : H4.2 A.2.2 = .inl (2, 8, .inl S.2.2.1) := (zk4 A.2.2 (by omega) (by omega)).trans q3_5
          have q4_6 : H4.2 40 = .inr (0, [.ref 50, .int 0]) := (zk4 40 (by omega) (by omega)).trans q3_6
          have q4_7 : H4.2 50 = .inl (3, 0, .inl sb40) := (zk4 50 (by omega) (by omega)).trans q3_7
          have q4_8 : H4.2 s9 = .inr (0, [.ref v9, .int 0]) := (zk4 s9 (by omega) (by omega)).trans y9.1
          have q4_9 : H4.2 v9 = .inl (3, L9, .inl f9) := (zk4 v9 (by omega) (by omega)).trans y9.2.1
          have zf4 : ∀ j : Nat, j < hp.1 → H4.2 j = hp.2 j := fun j h0 => (zk4 j (by omega) (by omega)).trans (zf3 j h0)
          show qq_Go _ H4 2 20 112 [(0, .ref 84), (1, .int cell), (2, .ref 40)] [.ref hp.1] _ _
          refine qq_aload_n dX7_text_112 rfl 0 rfl ?_
          refine qq_get (C := RX7) (T := TX7) (N := 11) dX7_text_113 q4_2 rfl 5 (by decide) rfl ku_X7 kl_X7_31 ?_
          refine qq_iload_n dX7_text_116 rfl 1 rfl ?_
          refine qq_iald dX7_text_117 q4_4 zv ?_
          refine qq_callVS (bc := 2) (bs := 20) (mc := 0) (ms := 0) (as := [.int (S.2.1 cell.toNatClampNeg)]) (rest := []) (o := hp.1) (ci := 1) (N := 4) (T := TJ4) dX7_text_118 qb4 rfl (mt_api H4 _ _ _ _ _ bg4 (by omega) (by omega) (by omega) qb4 qw4 _ r2 q4_0 q4_1 (by omega) (by omega)) rfl kl_X7_233 kn_J4_append_bf812 ke_J4_append_bf812 ki_J4 kc_J4_append_bf812 kd_J4_append_bf812 rfl (by decide) (by decide) (Nat.le_of_ble_eq_true rfl) (fun v H5 hv _ _ => ?_) (fun E hp' zx _ _ => zx.elim)
          obtain ⟨rfl, ⟨k5, le5, qb5, g5, qw5, bg5⟩, zz5, zk5⟩ := hv
          have zs5 : H5.1 = hp.1 + 2 := by omega
          have q5_0 : H5.2 7 = .inl (3, 100, .inl t_d1) := (zk5 7 (by omega) (by omega)).trans q4_0
          have q5_1 : H5.2 8 = .inl (3, 100, .inl t_d2) := (zk5 8 (by omega) (by omega)).trans q4_1
          have q5_2 : H5.2 84 = .inr (4, [.ref 85, .ref 86, .ref 89, .ref 90, .ref A.1, .ref A.2.1, .ref A.2.2, .int S.2.2.2.1, .int S.2.2.2.2.1, .int S.2.2.2.2.2.1, .int S.2.2.2.2.2.2]) := (zk5 84 (by omega) (by omega)).trans q4_2
          have q5_3 : H5.2 A.1 = .inl (0, 8, .inl S.1) := (zk5 A.1 (by omega) (by omega)).trans q4_3
          have q5_4 : H5.2 A.2.1 = .inl (0, 8, .inl S.2.1) := (zk5 A.2.1 (by omega) (by omega)).trans q4_4
          have q5_5 : H5.2 A.2.2 = .inl (2, 8, .inl S.2.2.1) := (zk5 A.2.2 (by omega) (by omega)).trans q4_5
          have q5_6 : H5.2 40 = .inr (0, [.ref 50, .int 0]) := (zk5 40 (by omega) (by omega)).trans q4_6
          have q5_7 : H5.2 50 = .inl (3, 0, .inl sb40) := (zk5 50 (by omega) (by omega)).trans q4_7
          have q5_8 : H5.2 s9 = .inr (0, [.ref v9, .int 0]) := (zk5 s9 (by omega) (by omega)).trans q4_8
          have q5_9 : H5.2 v9 = .inl (3, L9, .inl f9) := (zk5 v9 (by omega) (by omega)).trans q4_9
          have zf5 : ∀ j : Nat, j < hp.1 → H5.2 j = hp.2 j := fun j h0 => (zk5 j (by omega) (by omega)).trans (zf4 j h0)
          show qq_Go _ H5 2 20 121 [(0, .ref 84), (1, .int cell), (2, .ref 40)] [.ref hp.1] _ _
          refine qq_callVS (bc := 0) (bs := 0) (mc := 2) (ms := 20) (as := []) (rest := []) (o := hp.1) (ci := 1) (N := 4) (T := TJ4) dX7_text_121 qb5 rfl (mt_tos H5 _ _ _ _ _ bg5 (by omega) (by omega) (by omega) qb5 qw5 (by omega) (by omega) (by omega)) rfl kl_X7_223 kn_J4_toString_0e30d ke_J4_toString_0e30d ki_J4 kc_J4_toString_0e30d kd_J4_toString_0e30d rfl (by decide) (by decide) (Nat.le_of_ble_eq_true rfl) (fun v H6 hv _ _ => ?_) (fun E hp' zx _ _ => zx.elim)
          obtain ⟨rfl, zz6, zk6⟩ := hv
          rw [zs5] at zz6
          rw [zs5]
          have zs6 : H6.1 = hp.1 + 4 := by omega
          replace zk6 : ∀ j : Nat, j < hp.1 + 2 → H6.2 j = H5.2 j := fun j a => zk6 j (by omega)
          have q6_0 : H6.2 7 = .inl (3, 100, .inl t_d1) := (zk6 7 (by omega)).trans q5_0
          have q6_1 : H6.2 8 = .inl (3, 100, .inl t_d2) := (zk6 8 (by omega)).trans q5_1
          have q6_2 : H6.2 84 = .inr (4, [.ref 85, .ref 86, .ref 89, .ref 90, .ref A.1, .ref A.2.1, .ref A.2.2, .int S.2.2.2.1, .int S.2.2.2.2.1, .int S.2.2.2.2.2.1, .int S.2.2.2.2.2.2]) := (zk6 84 (by omega)).trans q5_2
          have q6_3 : H6.2 A.1 = .inl (0, 8, .inl S.1) := (zk6 A.1 (by omega)).trans q5_3
          have q6_4 : H6.2 A.2.1 = .inl (0, 8, .inl S.2.1) := (zk6 A.2.1 (by omega)).trans q5_4
          have q6_5 : H6.2 A.2.2 = .inl (2, 8, .inl S.2.2.1) := (zk6 A.2.2 (by omega)).trans q5_5
          have q6_6 : H6.2 40 = .inr (0, [.ref 50, .int 0]) := (zk6 40 (by omega)).trans q5_6
          have q6_7 : H6.2 50 = .inl (3, 0, .inl sb40) := (zk6 50 (by omega)).trans q5_7
          have q6_8 : H6.2 s9 = .inr (0, [.ref v9, .int 0]) := (zk6 s9 (by omega)).trans q5_8
          have q6_9 : H6.2 v9 = .inl (3, L9, .inl f9) := (zk6 v9 (by omega)).trans q5_9
          have q6_10 : H6.2 hp.1 = .inr (1, [.ref (hp.1 + 1), .int 0, .int 0, .int (Int32.ofNat k5)]) := (zk6 hp.1 (by omega)).trans qb5
          have q6_11 : H6.2 (hp.1 + 1) = .inl (3, 16, .inl g5) := (zk6 (hp.1 + 1) (by omega)).trans qw5
          have zf6 : ∀ j : Nat, j < hp.1 → H6.2 j = hp.2 j := fun j h0 => (zk6 j (by omega)).trans (zf5 j h0)
          show qq_Go _ H6 0 0 124 [(0, .ref 84), (1, .int cell), (2, .ref 40)] [.ref (hp.1 + 2)] _ _
          exact qq_aret dX7_text_124 rfl (Or.inl ⟨_, rfl⟩) (Or.inr ⟨_, rfl⟩) ⟨⟨_, rfl⟩, ms_g hS (by omega) zf6⟩
        · refine qq_new (ci := 1) (N := 4) (C := RJ4) (T := TJ4) (fs := [.null, .int 0, .int 0, .int 0]) (bc := 3) (bs := 36) (ms := 4) dX7_text_70 rfl ku_J4 tyJ4 tyJ4_ok kl_X7_214 kx_J4 ki_J4 (by decide +kernel) new_w (by decide) ?_
          obtain ⟨H7, he7⟩ : ∃ h : qq_H, (hp.1 + 1, va_up hp.2 hp.1 (.inr (1, [.null, .int 0, .int 0, .int 0]))) = h := ⟨_, rfl⟩
          refine qq_hp (hp2 := H7) he7 ?_
          have zk7 : ∀ j : Nat, j ≠ hp.1 → H7.2 j = hp.2 j := fun j d0 => by rw [← he7]; exact up_o d0 rfl
          have zs7 : H7.1 = hp.1 + 1 := by rw [← he7]
          have q7_0 : H7.2 7 = .inl (3, 100, .inl t_d1) := (zk7 7 (by omega)).trans (hE.2 7 (by decide) (by decide))
          have q7_1 : H7.2 8 = .inl (3, 100, .inl t_d2) := (zk7 8 (by omega)).trans (hE.2 8 (by decide) (by decide))
          have q7_2 : H7.2 84 = .inr (4, [.ref 85, .ref 86, .ref 89, .ref 90, .ref A.1, .ref A.2.1, .ref A.2.2, .int S.2.2.2.1, .int S.2.2.2.2.1, .int S.2.2.2.2.2.1, .int S.2.2.2.2.2.2]) := (zk7 84 (by omega)).trans hS.2.2.1
          have q7_3 : H7.2 A.1 = .inl (0, 8, .inl S.1) := (zk7 A.1 (by omega)).trans hS.2.2.2.1
          have q7_4 : H7.2 A.2.1 = .inl (0, 8, .inl S.2.1) := (zk7 A.2.1 (by omega)).trans hS.2.2.2.2.1
          have q7_5 : H7.2 A.2.2 = .inl (2, 8, .inl S.2.2.1) := (zk7 A.2.2 (by omega)).trans hS.2.2.2.2.2.1
          have q7_6 : H7.2 40 = .inr (0, [.ref 50, .int 0]) := (zk7 40 (by omega)).trans y1.1
          have q7_7 : H7.2 50 = .inl (3, 0, .inl sb40) := (zk7 50 (by omega)).trans y1.2.1
          have q7_8 : H7.2 hp.1 = .inr (1, [.null, .int 0, .int 0, .int 0]) := by rw [← he7]; exact up_p
          have zf7 : ∀ j : Nat, j < hp.1 → H7.2 j = hp.2 j := fun j h0 => (zk7 j (by omega)).trans rfl
          show qq_Go _ H7 3 36 73 [(0, .ref 84), (1, .int cell), (2, .ref 40)] [.ref hp.1] _ _
          refine qq_dup dX7_text_73 rfl ?_
          refine qq_callI (bc := 2) (bs := 20) (mc := 1) (ms := 16) (as := []) (rest := [.ref hp.1]) (o := hp.1) dX7_text_74 (mt_sbi H7 _ (by omega) (by omega) q7_8) rfl rfl rfl kl_X7_216 kn_J4_init_da8c8 ki_J4 kc_J4_init_da8c8 kd_J4_init_da8c8 rfl (by decide) (by decide) (Nat.le_of_ble_eq_true rfl) (fun v H8 hv _ _ => ?_) (fun E hp' zx _ _ => zx.elim)
          obtain ⟨rfl, ⟨qb8, g8, qw8, bg8⟩, zz8, zk8⟩ := hv
          rw [zs7] at qb8 qw8
          have zs8 : H8.1 = hp.1 + 2 := by omega
          replace zk8 : ∀ j : Nat, j < hp.1 + 1 → j ≠ hp.1 → H8.2 j = H7.2 j := fun j a b => zk8 j (by omega) b
          have q8_0 : H8.2 7 = .inl (3, 100, .inl t_d1) := (zk8 7 (by omega) (by omega)).trans q7_0
          have q8_1 : H8.2 8 = .inl (3, 100, .inl t_d2) := (zk8 8 (by omega) (by omega)).trans q7_1
          have q8_2 : H8.2 84 = .inr (4, [.ref 85, .ref 86, .ref 89, .ref 90, .ref A.1, .ref A.2.1, .ref A.2.2, .int S.2.2.2.1, .int S.2.2.2.2.1, .int S.2.2.2.2.2.1, .int S.2.2.2.2.2.2]) := (zk8 84 (by omega) (by omega)).trans q7_2
          have q8_3 : H8.2 A.1 = .inl (0, 8, .inl S.1) := (zk8 A.1 (by omega) (by omega)).trans q7_3
          have q8_4 : H8.2 A.2.1 = .inl (0, 8, .inl S.2.1) := (zk8 A.2.1 (by omega) (by omega)).trans q7_4
          have q8_5 : H8.2 A.2.2 = .inl (2, 8, .inl S.2.2.1) := (zk8 A.2.2 (by omega) (by omega)).trans q7_5
          have q8_6 : H8.2 40 = .inr (0, [.ref 50, .int 0]) := (zk8 40 (by omega) (by omega)).trans q7_6
          have q8_7 : H8.2 50 = .inl (3, 0, .inl sb40) := (zk8 50 (by omega) (by omega)).trans q7_7
          have zf8 : ∀ j : Nat, j < hp.1 → H8.2 j = hp.2 j := fun j h0 => (zk8 j (by omega) (by omega)).trans (zf7 j h0)
          show qq_Go _ H8 2 20 77 [(0, .ref 84), (1, .int cell), (2, .ref 40)] [.ref hp.1] _ _
          refine qq_aload_n dX7_text_77 rfl 2 rfl ?_
          refine qq_callVS (bc := 2) (bs := 20) (mc := 0) (ms := 0) (as := [.ref 40]) (rest := []) (o := hp.1) (ci := 1) (N := 4) (T := TJ4) dX7_text_78 qb8 rfl (mt_aps H8 _ _ _ _ (by omega) (by omega) q8_6 q8_7 y1.2.2.1 _ _ _ _ _ bg8 (by omega) (by omega) (by omega) qb8 qw8 (by omega)) rfl kl_X7_217 kn_J4_append_15ec4 ke_J4_append_15ec4 ki_J4 kc_J4_append_15ec4 kd_J4_append_15ec4 rfl (by decide) (by decide) (Nat.le_of_ble_eq_true rfl) (fun v H9 hv _ _ => ?_) (fun E hp' zx _ _ => zx.elim)
          obtain ⟨rfl, ⟨qb9, g9, qw9, bg9⟩, zz9, zk9⟩ := hv
          have zs9 : H9.1 = hp.1 + 2 := by omega
          have q9_0 : H9.2 7 = .inl (3, 100, .inl t_d1) := (zk9 7 (by omega) (by omega)).trans q8_0
          have q9_1 : H9.2 8 = .inl (3, 100, .inl t_d2) := (zk9 8 (by omega) (by omega)).trans q8_1
          have q9_2 : H9.2 84 = .inr (4, [.ref 85, .ref 86, .ref 89, .ref 90, .ref A.1, .ref A.2.1, .ref A.2.2, .int S.2.2.2.1, .int S.2.2.2.2.1, .int S.2.2.2.2.2.1, .int S.2.2.2.2.2.2]) := (zk9 84 (by omega) (by omega)).trans q8_2
          have q9_3 : H9.2 A.1 = .inl (0, 8, .inl S.1) := (zk9 A.1 (by omega) (by omega)).trans q8_3
          have q9_4 : H9.2 A.2.1 = .inl (0, 8, .inl S.2.1) := (zk9 A.2.1 (by omega) (by omega)).trans q8_4
          have q9_5 : H9.2 A.2.2 = .inl (2, 8, .inl S.2.2.1) := (zk9 A.2.2 (by omega) (by omega)).trans q8_5
          have q9_6 : H9.2 40 = .inr (0, [.ref 50, .int 0]) := (zk9 40 (by omega) (by omega)).trans q8_6
          have q9_7 : H9.2 50 = .inl (3, 0, .inl sb40) := (zk9 50 (by omega) (by omega)).trans q8_7
          have zf9 : ∀ j : Nat, j < hp.1 → H9.2 j = hp.2 j := fun j h0 => (zk9 j (by omega) (by omega)).trans (zf8 j h0)
          show qq_Go _ H9 2 20 81 [(0, .ref 84), (1, .int cell), (2, .ref 40)] [.ref hp.1] _ _
          refine qq_ldcs (tx := "zero") (a := 43) dX7_text_81 (by decide +kernel) ?_
          have y2 : tst 43 53 4 sb43 H9 := (tst_43 hE).g hE.1 zf9
          refine qq_callVS (bc := 2) (bs := 20) (mc := 0) (ms := 0) (as := [.ref 43]) (rest := []) (o := hp.1) (ci := 1) (N := 4) (T := TJ4) dX7_text_83 qb9 rfl (mt_aps H9 _ _ _ _ (by omega) (by omega) y2.1 y2.2.1 y2.2.2.1 _ _ _ _ _ bg9 (by omega) (by omega) (by omega) qb9 qw9 (by omega)) rfl kl_X7_217 kn_J4_append_15ec4 ke_J4_append_15ec4 ki_J4 kc_J4_append_15ec4 kd_J4_append_15ec4 rfl (by decide) (by decide) (Nat.le_of_ble_eq_true rfl) (fun v H10 hv _ _ => ?_) (fun E hp' zx _ _ => zx.elim)
          obtain ⟨rfl, ⟨qb10, g10, qw10, bg10⟩, zz10, zk10⟩ := hv
          have zs10 : H10.1 = hp.1 + 2 := by omega
          have q10_0 : H10.2 7 = .inl (3, 100, .inl t_d1) := (zk10 7 (by omega) (by omega)).trans q9_0
          have q10_1 : H10.2 8 = .inl (3, 100, .inl t_d2) := (zk10 8 (by omega) (by omega)).trans q9_1
          have q10_2 : H10.2 84 = .inr (4, [.ref 85, .ref 86, .ref 89, .ref 90, .ref A.1, .ref A.2.1, .ref A.2.2, .int S.2.2.2.1, .int S.2.2.2.2.1, .int S.2.2.2.2.2.1, .int S.2.2.2.2.2.2]) := (zk10 84 (by omega) (by omega)).trans q9_2
          have q10_3 : H10.2 A.1 = .inl (0, 8, .inl S.1) := (zk10 A.1 (by omega) (by omega)).trans q9_3
          have q10_4 : H10.2 A.2.1 = .inl (0, 8, .inl S.2.1) := (zk10 A.2.1 (by omega) (by omega)).trans q9_4
          have q10_5 : H10.2 A.2.2 = .inl (2, 8, .inl S.2.2.1) := (zk10 A.2.2 (by omega) (by omega)).trans q9_5
          have q10_6 : H10.2 40 = .inr (0, [.ref 50, .int 0]) := (zk10 40 (by omega) (by omega)).trans q9_6
          have q10_7 : H10.2 50 = .inl (3, 0, .inl sb40) := (zk10 50 (by omega) (by omega)).trans q9_7
          have q10_8 : H10.2 43 = .inr (0, [.ref 53, .int 0]) := (zk10 43 (by omega) (by omega)).trans y2.1
          have q10_9 : H10.2 53 = .inl (3, 4, .inl sb43) := (zk10 53 (by omega) (by omega)).trans y2.2.1
          have zf10 : ∀ j : Nat, j < hp.1 → H10.2 j = hp.2 j := fun j h0 => (zk10 j (by omega) (by omega)).trans (zf9 j h0)
          show qq_Go _ H10 2 20 86 [(0, .ref 84), (1, .int cell), (2, .ref 40)] [.ref hp.1] _ _
          refine qq_callVS (bc := 0) (bs := 0) (mc := 2) (ms := 20) (as := []) (rest := []) (o := hp.1) (ci := 1) (N := 4) (T := TJ4) dX7_text_86 qb10 rfl (mt_tos H10 _ _ _ _ _ bg10 (by omega) (by omega) (by omega) qb10 qw10 (by omega) (by omega) (by omega)) rfl kl_X7_223 kn_J4_toString_0e30d ke_J4_toString_0e30d ki_J4 kc_J4_toString_0e30d kd_J4_toString_0e30d rfl (by decide) (by decide) (Nat.le_of_ble_eq_true rfl) (fun v H11 hv _ _ => ?_) (fun E hp' zx _ _ => zx.elim)
          obtain ⟨rfl, zz11, zk11⟩ := hv
          rw [zs10] at zz11
          rw [zs10]
          have zs11 : H11.1 = hp.1 + 4 := by omega
          replace zk11 : ∀ j : Nat, j < hp.1 + 2 → H11.2 j = H10.2 j := fun j a => zk11 j (by omega)
          have q11_0 : H11.2 7 = .inl (3, 100, .inl t_d1) := (zk11 7 (by omega)).trans q10_0
          have q11_1 : H11.2 8 = .inl (3, 100, .inl t_d2) := (zk11 8 (by omega)).trans q10_1
          have q11_2 : H11.2 84 = .inr (4, [.ref 85, .ref 86, .ref 89, .ref 90, .ref A.1, .ref A.2.1, .ref A.2.2, .int S.2.2.2.1, .int S.2.2.2.2.1, .int S.2.2.2.2.2.1, .int S.2.2.2.2.2.2]) := (zk11 84 (by omega)).trans q10_2
          have q11_3 : H11.2 A.1 = .inl (0, 8, .inl S.1) := (zk11 A.1 (by omega)).trans q10_3
          have q11_4 : H11.2 A.2.1 = .inl (0, 8, .inl S.2.1) := (zk11 A.2.1 (by omega)).trans q10_4
          have q11_5 : H11.2 A.2.2 = .inl (2, 8, .inl S.2.2.1) := (zk11 A.2.2 (by omega)).trans q10_5
          have q11_6 : H11.2 40 = .inr (0, [.ref 50, .int 0]) := (zk11 40 (by omega)).trans q10_6
          have q11_7 : H11.2 50 = .inl (3, 0, .inl sb40) := (zk11 50 (by omega)).trans q10_7
          have q11_8 : H11.2 43 = .inr (0, [.ref 53, .int 0]) := (zk11 43 (by omega)).trans q10_8
          have q11_9 : H11.2 53 = .inl (3, 4, .inl sb43) := (zk11 53 (by omega)).trans q10_9
          have q11_10 : H11.2 hp.1 = .inr (1, [.ref (hp.1 + 1), .int 0, .int 0, .int (Int32.ofNat ((0 + 0) + 4))]) := (zk11 hp.1 (by omega)).trans qb10
          have q11_11 : H11.2 (hp.1 + 1) = .inl (3, 16, .inl g10) := (zk11 (hp.1 + 1) (by omega)).trans qw10
          have zf11 : ∀ j : Nat, j < hp.1 → H11.2 j = hp.2 j := fun j h0 => (zk11 j (by omega)).trans (zf10 j h0)
          show qq_Go _ H11 0 0 89 [(0, .ref 84), (1, .int cell), (2, .ref 40)] [.ref (hp.1 + 2)] _ _
          refine qq_goto (tgt := 124) dX7_text_89 (by decide) ?_
          exact qq_aret dX7_text_124 rfl (Or.inl ⟨_, rfl⟩) (Or.inr ⟨_, rfl⟩) ⟨⟨_, rfl⟩, ms_g hS (by omega) zf11⟩
      · refine qq_new (ci := 1) (N := 4) (C := RJ4) (T := TJ4) (fs := [.null, .int 0, .int 0, .int 0]) (bc := 3) (bs := 36) (ms := 4) dX7_text_42 rfl ku_J4 tyJ4 tyJ4_ok kl_X7_214 kx_J4 ki_J4 (by decide +kernel) new_w (by decide) ?_
        obtain ⟨H12, he12⟩ : ∃ h : qq_H, (hp.1 + 1, va_up hp.2 hp.1 (.inr (1, [.null, .int 0, .int 0, .int 0]))) = h := ⟨_, rfl⟩
        refine qq_hp (hp2 := H12) he12 ?_
        have zk12 : ∀ j : Nat, j ≠ hp.1 → H12.2 j = hp.2 j := fun j d0 => by rw [← he12]; exact up_o d0 rfl
        have zs12 : H12.1 = hp.1 + 1 := by rw [← he12]
        have q12_0 : H12.2 7 = .inl (3, 100, .inl t_d1) := (zk12 7 (by omega)).trans (hE.2 7 (by decide) (by decide))
        have q12_1 : H12.2 8 = .inl (3, 100, .inl t_d2) := (zk12 8 (by omega)).trans (hE.2 8 (by decide) (by decide))
        have q12_2 : H12.2 84 = .inr (4, [.ref 85, .ref 86, .ref 89, .ref 90, .ref A.1, .ref A.2.1, .ref A.2.2, .int S.2.2.2.1, .int S.2.2.2.2.1, .int S.2.2.2.2.2.1, .int S.2.2.2.2.2.2]) := (zk12 84 (by omega)).trans hS.2.2.1
        have q12_3 : H12.2 A.1 = .inl (0, 8, .inl S.1) := (zk12 A.1 (by omega)).trans hS.2.2.2.1
        have q12_4 : H12.2 A.2.1 = .inl (0, 8, .inl S.2.1) := (zk12 A.2.1 (by omega)).trans hS.2.2.2.2.1
        have q12_5 : H12.2 A.2.2 = .inl (2, 8, .inl S.2.2.1) := (zk12 A.2.2 (by omega)).trans hS.2.2.2.2.2.1
        have q12_6 : H12.2 40 = .inr (0, [.ref 50, .int 0]) := (zk12 40 (by omega)).trans y1.1
        have q12_7 : H12.2 50 = .inl (3, 0, .inl sb40) := (zk12 50 (by omega)).trans y1.2.1
        have q12_8 : H12.2 hp.1 = .inr (1, [.null, .int 0, .int 0, .int 0]) := by rw [← he12]; exact up_p
        have zf12 : ∀ j : Nat, j < hp.1 → H12.2 j = hp.2 j := fun j h0 => (zk12 j (by omega)).trans rfl
        show qq_Go _ H12 3 36 45 [(0, .ref 84), (1, .int cell), (2, .ref 40)] [.ref hp.1] _ _
        refine qq_dup dX7_text_45 rfl ?_
        refine qq_callI (bc := 2) (bs := 20) (mc := 1) (ms := 16) (as := []) (rest := [.ref hp.1]) (o := hp.1) dX7_text_46 (mt_sbi H12 _ (by omega) (by omega) q12_8) rfl rfl rfl kl_X7_216 kn_J4_init_da8c8 ki_J4 kc_J4_init_da8c8 kd_J4_init_da8c8 rfl (by decide) (by decide) (Nat.le_of_ble_eq_true rfl) (fun v H13 hv _ _ => ?_) (fun E hp' zx _ _ => zx.elim)
        obtain ⟨rfl, ⟨qb13, g13, qw13, bg13⟩, zz13, zk13⟩ := hv
        rw [zs12] at qb13 qw13
        have zs13 : H13.1 = hp.1 + 2 := by omega
        replace zk13 : ∀ j : Nat, j < hp.1 + 1 → j ≠ hp.1 → H13.2 j = H12.2 j := fun j a b => zk13 j (by omega) b
        have q13_0 : H13.2 7 = .inl (3, 100, .inl t_d1) := (zk13 7 (by omega) (by omega)).trans q12_0
        have q13_1 : H13.2 8 = .inl (3, 100, .inl t_d2) := (zk13 8 (by omega) (by omega)).trans q12_1
        have q13_2 : H13.2 84 = .inr (4, [.ref 85, .ref 86, .ref 89, .ref 90, .ref A.1, .ref A.2.1, .ref A.2.2, .int S.2.2.2.1, .int S.2.2.2.2.1, .int S.2.2.2.2.2.1, .int S.2.2.2.2.2.2]) := (zk13 84 (by omega) (by omega)).trans q12_2
        have q13_3 : H13.2 A.1 = .inl (0, 8, .inl S.1) := (zk13 A.1 (by omega) (by omega)).trans q12_3
        have q13_4 : H13.2 A.2.1 = .inl (0, 8, .inl S.2.1) := (zk13 A.2.1 (by omega) (by omega)).trans q12_4
        have q13_5 : H13.2 A.2.2 = .inl (2, 8, .inl S.2.2.1) := (zk13 A.2.2 (by omega) (by omega)).trans q12_5
        have q13_6 : H13.2 40 = .inr (0, [.ref 50, .int 0]) := (zk13 40 (by omega) (by omega)).trans q12_6
        have q13_7 : H13.2 50 = .inl (3, 0, .inl sb40) := (zk13 50 (by omega) (by omega)).trans q12_7
        have zf13 : ∀ j : Nat, j < hp.1 → H13.2 j = hp.2 j := fun j h0 => (zk13 j (by omega) (by omega)).trans (zf12 j h0)
        show qq_Go _ H13 2 20 49 [(0, .ref 84), (1, .int cell), (2, .ref 40)] [.ref hp.1] _ _
        refine qq_aload_n dX7_text_49 rfl 2 rfl ?_
        refine qq_callVS (bc := 2) (bs := 20) (mc := 0) (ms := 0) (as := [.ref 40]) (rest := []) (o := hp.1) (ci := 1) (N := 4) (T := TJ4) dX7_text_50 qb13 rfl (mt_aps H13 _ _ _ _ (by omega) (by omega) q13_6 q13_7 y1.2.2.1 _ _ _ _ _ bg13 (by omega) (by omega) (by omega) qb13 qw13 (by omega)) rfl kl_X7_217 kn_J4_append_15ec4 ke_J4_append_15ec4 ki_J4 kc_J4_append_15ec4 kd_J4_append_15ec4 rfl (by decide) (by decide) (Nat.le_of_ble_eq_true rfl) (fun v H14 hv _ _ => ?_) (fun E hp' zx _ _ => zx.elim)
        obtain ⟨rfl, ⟨qb14, g14, qw14, bg14⟩, zz14, zk14⟩ := hv
        have zs14 : H14.1 = hp.1 + 2 := by omega
        have q14_0 : H14.2 7 = .inl (3, 100, .inl t_d1) := (zk14 7 (by omega) (by omega)).trans q13_0
        have q14_1 : H14.2 8 = .inl (3, 100, .inl t_d2) := (zk14 8 (by omega) (by omega)).trans q13_1
        have q14_2 : H14.2 84 = .inr (4, [.ref 85, .ref 86, .ref 89, .ref 90, .ref A.1, .ref A.2.1, .ref A.2.2, .int S.2.2.2.1, .int S.2.2.2.2.1, .int S.2.2.2.2.2.1, .int S.2.2.2.2.2.2]) := (zk14 84 (by omega) (by omega)).trans q13_2
        have q14_3 : H14.2 A.1 = .inl (0, 8, .inl S.1) := (zk14 A.1 (by omega) (by omega)).trans q13_3
        have q14_4 : H14.2 A.2.1 = .inl (0, 8, .inl S.2.1) := (zk14 A.2.1 (by omega) (by omega)).trans q13_4
        have q14_5 : H14.2 A.2.2 = .inl (2, 8, .inl S.2.2.1) := (zk14 A.2.2 (by omega) (by omega)).trans q13_5
        have q14_6 : H14.2 40 = .inr (0, [.ref 50, .int 0]) := (zk14 40 (by omega) (by omega)).trans q13_6
        have q14_7 : H14.2 50 = .inl (3, 0, .inl sb40) := (zk14 50 (by omega) (by omega)).trans q13_7
        have zf14 : ∀ j : Nat, j < hp.1 → H14.2 j = hp.2 j := fun j h0 => (zk14 j (by omega) (by omega)).trans (zf13 j h0)
        show qq_Go _ H14 2 20 53 [(0, .ref 84), (1, .int cell), (2, .ref 40)] [.ref hp.1] _ _
        refine qq_ldcs (tx := "endless") (a := 42) dX7_text_53 (by decide +kernel) ?_
        have y3 : tst 42 52 7 sb42 H14 := (tst_42 hE).g hE.1 zf14
        refine qq_callVS (bc := 2) (bs := 20) (mc := 0) (ms := 0) (as := [.ref 42]) (rest := []) (o := hp.1) (ci := 1) (N := 4) (T := TJ4) dX7_text_55 qb14 rfl (mt_aps H14 _ _ _ _ (by omega) (by omega) y3.1 y3.2.1 y3.2.2.1 _ _ _ _ _ bg14 (by omega) (by omega) (by omega) qb14 qw14 (by omega)) rfl kl_X7_217 kn_J4_append_15ec4 ke_J4_append_15ec4 ki_J4 kc_J4_append_15ec4 kd_J4_append_15ec4 rfl (by decide) (by decide) (Nat.le_of_ble_eq_true rfl) (fun v H15 hv _ _ => ?_) (fun E hp' zx _ _ => zx.elim)
        obtain ⟨rfl, ⟨qb15, g15, qw15, bg15⟩, zz15, zk15⟩ := hv
        have zs15 : H15.1 = hp.1 + 2 := by omega
        have q15_0 : H15.2 7 = .inl (3, 100, .inl t_d1) := (zk15 7 (by omega) (by omega)).trans q14_0
        have q15_1 : H15.2 8 = .inl (3, 100, .inl t_d2) := (zk15 8 (by omega) (by omega)).trans q14_1
        have q15_2 : H15.2 84 = .inr (4, [.ref 85, .ref 86, .ref 89, .ref 90, .ref A.1, .ref A.2.1, .ref A.2.2, .int S.2.2.2.1, .int S.2.2.2.2.1, .int S.2.2.2.2.2.1, .int S.2.2.2.2.2.2]) := (zk15 84 (by omega) (by omega)).trans q14_2
        have q15_3 : H15.2 A.1 = .inl (0, 8, .inl S.1) := (zk15 A.1 (by omega) (by omega)).trans q14_3
        have q15_4 : H15.2 A.2.1 = .inl (0, 8, .inl S.2.1) := (zk15 A.2.1 (by omega) (by omega)).trans q14_4
        have q15_5 : H15.2 A.2.2 = .inl (2, 8, .inl S.2.2.1) := (zk15 A.2.2 (by omega) (by omega)).trans q14_5
        have q15_6 : H15.2 40 = .inr (0, [.ref 50, .int 0]) := (zk15 40 (by omega) (by omega)).trans q14_6
        have q15_7 : H15.2 50 = .inl (3, 0, .inl sb40) := (zk15 50 (by omega) (by omega)).trans q14_7
        have q15_8 : H15.2 42 = .inr (0, [.ref 52, .int 0]) := (zk15 42 (by omega) (by omega)).trans y3.1
        have q15_9 : H15.2 52 = .inl (3, 7, .inl sb42) := (zk15 52 (by omega) (by omega)).trans y3.2.1
        have zf15 : ∀ j : Nat, j < hp.1 → H15.2 j = hp.2 j := fun j h0 => (zk15 j (by omega) (by omega)).trans (zf14 j h0)
        show qq_Go _ H15 2 20 58 [(0, .ref 84), (1, .int cell), (2, .ref 40)] [.ref hp.1] _ _
        refine qq_callVS (bc := 0) (bs := 0) (mc := 2) (ms := 20) (as := []) (rest := []) (o := hp.1) (ci := 1) (N := 4) (T := TJ4) dX7_text_58 qb15 rfl (mt_tos H15 _ _ _ _ _ bg15 (by omega) (by omega) (by omega) qb15 qw15 (by omega) (by omega) (by omega)) rfl kl_X7_223 kn_J4_toString_0e30d ke_J4_toString_0e30d ki_J4 kc_J4_toString_0e30d kd_J4_toString_0e30d rfl (by decide) (by decide) (Nat.le_of_ble_eq_true rfl) (fun v H16 hv _ _ => ?_) (fun E hp' zx _ _ => zx.elim)
        obtain ⟨rfl, zz16, zk16⟩ := hv
        rw [zs15] at zz16
        rw [zs15]
        have zs16 : H16.1 = hp.1 + 4 := by omega
        replace zk16 : ∀ j : Nat, j < hp.1 + 2 → H16.2 j = H15.2 j := fun j a => zk16 j (by omega)
        have q16_0 : H16.2 7 = .inl (3, 100, .inl t_d1) := (zk16 7 (by omega)).trans q15_0
        have q16_1 : H16.2 8 = .inl (3, 100, .inl t_d2) := (zk16 8 (by omega)).trans q15_1
        have q16_2 : H16.2 84 = .inr (4, [.ref 85, .ref 86, .ref 89, .ref 90, .ref A.1, .ref A.2.1, .ref A.2.2, .int S.2.2.2.1, .int S.2.2.2.2.1, .int S.2.2.2.2.2.1, .int S.2.2.2.2.2.2]) := (zk16 84 (by omega)).trans q15_2
        have q16_3 : H16.2 A.1 = .inl (0, 8, .inl S.1) := (zk16 A.1 (by omega)).trans q15_3
        have q16_4 : H16.2 A.2.1 = .inl (0, 8, .inl S.2.1) := (zk16 A.2.1 (by omega)).trans q15_4
        have q16_5 : H16.2 A.2.2 = .inl (2, 8, .inl S.2.2.1) := (zk16 A.2.2 (by omega)).trans q15_5
        have q16_6 : H16.2 40 = .inr (0, [.ref 50, .int 0]) := (zk16 40 (by omega)).trans q15_6
        have q16_7 : H16.2 50 = .inl (3, 0, .inl sb40) := (zk16 50 (by omega)).trans q15_7
        have q16_8 : H16.2 42 = .inr (0, [.ref 52, .int 0]) := (zk16 42 (by omega)).trans q15_8
        have q16_9 : H16.2 52 = .inl (3, 7, .inl sb42) := (zk16 52 (by omega)).trans q15_9
        have q16_10 : H16.2 hp.1 = .inr (1, [.ref (hp.1 + 1), .int 0, .int 0, .int (Int32.ofNat ((0 + 0) + 7))]) := (zk16 hp.1 (by omega)).trans qb15
        have q16_11 : H16.2 (hp.1 + 1) = .inl (3, 16, .inl g15) := (zk16 (hp.1 + 1) (by omega)).trans qw15
        have zf16 : ∀ j : Nat, j < hp.1 → H16.2 j = hp.2 j := fun j h0 => (zk16 j (by omega)).trans (zf15 j h0)
        show qq_Go _ H16 0 0 61 [(0, .ref 84), (1, .int cell), (2, .ref 40)] [.ref (hp.1 + 2)] _ _
        exact qq_aret dX7_text_61 rfl (Or.inl ⟨_, rfl⟩) (Or.inr ⟨_, rfl⟩) ⟨⟨_, rfl⟩, ms_g hS (by omega) zf16⟩
    · refine qq_ldcs (tx := "-") (a := 41) dX7_text_24 (by decide +kernel) ?_
      have y4 : tst 41 51 1 sb41 hp := tst_41 hE
      refine qq_goto (tgt := 31) dX7_text_26 (by decide) ?_
      refine qq_astore_n (loc' := [(0, .ref 84), (1, .int cell), (2, .ref 41)]) dX7_text_31 rfl [1, 2, 0] (Nat.le_of_ble_eq_true rfl) rfl ?_
      refine qq_aload_n dX7_text_32 rfl 0 rfl ?_
      refine qq_get (C := RX7) (T := TX7) (N := 11) dX7_text_33 hS.2.2.1 rfl 4 (by decide) rfl ku_X7 kl_X7_28 ?_
      refine qq_iload_n dX7_text_36 rfl 1 rfl ?_
      refine qq_iald dX7_text_37 hS.2.2.2.1 zv ?_
      refine qq_iconst (v := 1) dX7_text_38 (by decide) ?_
      refine qq_icmp_ne (tgt := 62) dX7_text_39 (by decide) (fun zc5 => ?_) (fun zc5 => ?_)
      · refine qq_aload_n dX7_text_62 rfl 0 rfl ?_
        refine qq_iload_n dX7_text_63 rfl 1 rfl ?_
        refine qq_callVS (bc := 4) (bs := 40) (mc := 0) (ms := 0) (as := [.int cell]) (rest := []) (o := 84) (ci := 4) (N := 11) (T := TX7) dX7_text_64 hS.2.2.1 rfl (mt_X7_isNought hp A S hS cell zv) rfl kl_X7_109 kn_X7_isNought ke_X7_isNought ki_X7 kc_X7_isNought kd_X7_isNought rfl (by decide) (by decide) (Nat.le_of_ble_eq_true rfl) (fun v H17 hv _ _ => ?_) (fun E hp' zx _ _ => zx.elim)
        obtain ⟨rfl, rfl⟩ := hv
        show qq_Go _ hp 4 40 67 [(0, .ref 84), (1, .int cell), (2, .ref 41)] [.int (r_X7_isNought cell S)] _ _
        refine qq_if_eq (tgt := 92) dX7_text_67 (by decide) (fun zc6 => ?_) (fun zc6 => ?_)
        · refine qq_new (ci := 1) (N := 4) (C := RJ4) (T := TJ4) (fs := [.null, .int 0, .int 0, .int 0]) (bc := 3) (bs := 36) (ms := 4) dX7_text_92 rfl ku_J4 tyJ4 tyJ4_ok kl_X7_214 kx_J4 ki_J4 (by decide +kernel) new_w (by decide) ?_
          obtain ⟨H18, he18⟩ : ∃ h : qq_H, (hp.1 + 1, va_up hp.2 hp.1 (.inr (1, [.null, .int 0, .int 0, .int 0]))) = h := ⟨_, rfl⟩
          refine qq_hp (hp2 := H18) he18 ?_
          have zk18 : ∀ j : Nat, j ≠ hp.1 → H18.2 j = hp.2 j := fun j d0 => by rw [← he18]; exact up_o d0 rfl
          have zs18 : H18.1 = hp.1 + 1 := by rw [← he18]
          have q18_0 : H18.2 7 = .inl (3, 100, .inl t_d1) := (zk18 7 (by omega)).trans (hE.2 7 (by decide) (by decide))
          have q18_1 : H18.2 8 = .inl (3, 100, .inl t_d2) := (zk18 8 (by omega)).trans (hE.2 8 (by decide) (by decide))
          have q18_2 : H18.2 84 = .inr (4, [.ref 85, .ref 86, .ref 89, .ref 90, .ref A.1, .ref A.2.1, .ref A.2.2, .int S.2.2.2.1, .int S.2.2.2.2.1, .int S.2.2.2.2.2.1, .int S.2.2.2.2.2.2]) := (zk18 84 (by omega)).trans hS.2.2.1
          have q18_3 : H18.2 A.1 = .inl (0, 8, .inl S.1) := (zk18 A.1 (by omega)).trans hS.2.2.2.1
          have q18_4 : H18.2 A.2.1 = .inl (0, 8, .inl S.2.1) := (zk18 A.2.1 (by omega)).trans hS.2.2.2.2.1
          have q18_5 : H18.2 A.2.2 = .inl (2, 8, .inl S.2.2.1) := (zk18 A.2.2 (by omega)).trans hS.2.2.2.2.2.1
          have q18_6 : H18.2 41 = .inr (0, [.ref 51, .int 0]) := (zk18 41 (by omega)).trans y4.1
          have q18_7 : H18.2 51 = .inl (3, 1, .inl sb41) := (zk18 51 (by omega)).trans y4.2.1
          have q18_8 : H18.2 hp.1 = .inr (1, [.null, .int 0, .int 0, .int 0]) := by rw [← he18]; exact up_p
          have zf18 : ∀ j : Nat, j < hp.1 → H18.2 j = hp.2 j := fun j h0 => (zk18 j (by omega)).trans rfl
          show qq_Go _ H18 3 36 95 [(0, .ref 84), (1, .int cell), (2, .ref 41)] [.ref hp.1] _ _
          refine qq_dup dX7_text_95 rfl ?_
          refine qq_callI (bc := 2) (bs := 20) (mc := 1) (ms := 16) (as := []) (rest := [.ref hp.1]) (o := hp.1) dX7_text_96 (mt_sbi H18 _ (by omega) (by omega) q18_8) rfl rfl rfl kl_X7_216 kn_J4_init_da8c8 ki_J4 kc_J4_init_da8c8 kd_J4_init_da8c8 rfl (by decide) (by decide) (Nat.le_of_ble_eq_true rfl) (fun v H19 hv _ _ => ?_) (fun E hp' zx _ _ => zx.elim)
          obtain ⟨rfl, ⟨qb19, g19, qw19, bg19⟩, zz19, zk19⟩ := hv
          rw [zs18] at qb19 qw19
          have zs19 : H19.1 = hp.1 + 2 := by omega
          replace zk19 : ∀ j : Nat, j < hp.1 + 1 → j ≠ hp.1 → H19.2 j = H18.2 j := fun j a b => zk19 j (by omega) b
          have q19_0 : H19.2 7 = .inl (3, 100, .inl t_d1) := (zk19 7 (by omega) (by omega)).trans q18_0
          have q19_1 : H19.2 8 = .inl (3, 100, .inl t_d2) := (zk19 8 (by omega) (by omega)).trans q18_1
          have q19_2 : H19.2 84 = .inr (4, [.ref 85, .ref 86, .ref 89, .ref 90, .ref A.1, .ref A.2.1, .ref A.2.2, .int S.2.2.2.1, .int S.2.2.2.2.1, .int S.2.2.2.2.2.1, .int S.2.2.2.2.2.2]) := (zk19 84 (by omega) (by omega)).trans q18_2
          have q19_3 : H19.2 A.1 = .inl (0, 8, .inl S.1) := (zk19 A.1 (by omega) (by omega)).trans q18_3
          have q19_4 : H19.2 A.2.1 = .inl (0, 8, .inl S.2.1) := (zk19 A.2.1 (by omega) (by omega)).trans q18_4
          have q19_5 : H19.2 A.2.2 = .inl (2, 8, .inl S.2.2.1) := (zk19 A.2.2 (by omega) (by omega)).trans q18_5
          have q19_6 : H19.2 41 = .inr (0, [.ref 51, .int 0]) := (zk19 41 (by omega) (by omega)).trans q18_6
          have q19_7 : H19.2 51 = .inl (3, 1, .inl sb41) := (zk19 51 (by omega) (by omega)).trans q18_7
          have zf19 : ∀ j : Nat, j < hp.1 → H19.2 j = hp.2 j := fun j h0 => (zk19 j (by omega) (by omega)).trans (zf18 j h0)
          show qq_Go _ H19 2 20 99 [(0, .ref 84), (1, .int cell), (2, .ref 41)] [.ref hp.1] _ _
          refine qq_gets (C := "QuarterpowersModel") (nm := "NAMES") (d := "[Ljava/lang/String;") (v := .ref 6) dX7_text_99 (by decide +kernel) kl_X7_229 ?_
          refine qq_aload_n dX7_text_102 rfl 0 rfl ?_
          refine qq_get (C := RX7) (T := TX7) (N := 11) dX7_text_103 q19_2 rfl 4 (by decide) rfl ku_X7 kl_X7_28 ?_
          refine qq_iload_n dX7_text_106 rfl 1 rfl ?_
          refine qq_iald dX7_text_107 q19_3 zv ?_
          obtain ⟨r1, r2, s9, v9, L9, f9, r3, r4, r5, r6⟩ := nm_s (zI _ (vp_lt zv)) (by assumption)
          have y9 : tst s9 v9 L9 f9 H19 := (r6 hp hE).g hE.1 zf19
          refine qq_aald dX7_text_108 ((zf19 6 (by omega)).trans (hE.2 6 (by decide) (by decide))) (Or.inr ⟨rfl, by decide⟩) r1 ?_
          rw [r3]
          have w4 := y9.2.2.2.1
          have w5 := y9.2.2.2.2
          show qq_Go _ H19 2 20 109 [(0, .ref 84), (1, .int cell), (2, .ref 41)] [.ref s9, .ref hp.1] _ _
          refine qq_callVS (bc := 2) (bs := 20) (mc := 0) (ms := 0) (as := [.ref s9]) (rest := []) (o := hp.1) (ci := 1) (N := 4) (T := TJ4) dX7_text_109 qb19 rfl (mt_aps H19 _ _ _ _ (by omega) (by omega) y9.1 y9.2.1 y9.2.2.1 _ _ _ _ _ bg19 (by omega) (by omega) (by omega) qb19 qw19 (by omega)) rfl kl_X7_217 kn_J4_append_15ec4 ke_J4_append_15ec4 ki_J4 kc_J4_append_15ec4 kd_J4_append_15ec4 rfl (by decide) (by decide) (Nat.le_of_ble_eq_true rfl) (fun v H20 hv _ _ => ?_) (fun E hp' zx _ _ => zx.elim)
          obtain ⟨rfl, ⟨qb20, g20, qw20, bg20⟩, zz20, zk20⟩ := hv
          have zs20 : H20.1 = hp.1 + 2 := by omega
          have q20_0 : H20.2 7 = .inl (3, 100, .inl t_d1) := (zk20 7 (by omega) (by omega)).trans q19_0
          have q20_1 : H20.2 8 = .inl (3, 100, .inl t_d2) := (zk20 8 (by omega) (by omega)).trans q19_1
          have q20_2 : H20.2 84 = .inr (4, [.ref 85, .ref 86, .ref 89, .ref 90, .ref A.1, .ref A.2.1, .ref A.2.2, .int S.2.2.2.1, .int S.2.2.2.2.1, .int S.2.2.2.2.2.1, .int S.2.2.2.2.2.2]) := (zk20 84 (by omega) (by omega)).trans q19_2
          have q20_3 : H20.2 A.1 = .inl (0, 8, .inl S.1) := (zk20 A.1 (by omega) (by omega)).trans q19_3
          have q20_4 : H20.2 A.2.1 = .inl (0, 8, .inl S.2.1) := (zk20 A.2.1 (by omega) (by omega)).trans q19_4
          have q20_5 : H20.2 A.2.2 = .inl (2, 8, .inl S.2.2.1) := (zk20 A.2.2 (by omega) (by omega)).trans q19_5
          have q20_6 : H20.2 41 = .inr (0, [.ref 51, .int 0]) := (zk20 41 (by omega) (by omega)).trans q19_6
          have q20_7 : H20.2 51 = .inl (3, 1, .inl sb41) := (zk20 51 (by omega) (by omega)).trans q19_7
          have q20_8 : H20.2 s9 = .inr (0, [.ref v9, .int 0]) := (zk20 s9 (by omega) (by omega)).trans y9.1
          have q20_9 : H20.2 v9 = .inl (3, L9, .inl f9) := (zk20 v9 (by omega) (by omega)).trans y9.2.1
          have zf20 : ∀ j : Nat, j < hp.1 → H20.2 j = hp.2 j := fun j h0 => (zk20 j (by omega) (by omega)).trans (zf19 j h0)
          show qq_Go _ H20 2 20 112 [(0, .ref 84), (1, .int cell), (2, .ref 41)] [.ref hp.1] _ _
          refine qq_aload_n dX7_text_112 rfl 0 rfl ?_
          refine qq_get (C := RX7) (T := TX7) (N := 11) dX7_text_113 q20_2 rfl 5 (by decide) rfl ku_X7 kl_X7_31 ?_
          refine qq_iload_n dX7_text_116 rfl 1 rfl ?_
          refine qq_iald dX7_text_117 q20_4 zv ?_
          refine qq_callVS (bc := 2) (bs := 20) (mc := 0) (ms := 0) (as := [.int (S.2.1 cell.toNatClampNeg)]) (rest := []) (o := hp.1) (ci := 1) (N := 4) (T := TJ4) dX7_text_118 qb20 rfl (mt_api H20 _ _ _ _ _ bg20 (by omega) (by omega) (by omega) qb20 qw20 _ r2 q20_0 q20_1 (by omega) (by omega)) rfl kl_X7_233 kn_J4_append_bf812 ke_J4_append_bf812 ki_J4 kc_J4_append_bf812 kd_J4_append_bf812 rfl (by decide) (by decide) (Nat.le_of_ble_eq_true rfl) (fun v H21 hv _ _ => ?_) (fun E hp' zx _ _ => zx.elim)
          obtain ⟨rfl, ⟨k21, le21, qb21, g21, qw21, bg21⟩, zz21, zk21⟩ := hv
          have zs21 : H21.1 = hp.1 + 2 := by omega
          have q21_0 : H21.2 7 = .inl (3, 100, .inl t_d1) := (zk21 7 (by omega) (by omega)).trans q20_0
          have q21_1 : H21.2 8 = .inl (3, 100, .inl t_d2) := (zk21 8 (by omega) (by omega)).trans q20_1
          have q21_2 : H21.2 84 = .inr (4, [.ref 85, .ref 86, .ref 89, .ref 90, .ref A.1, .ref A.2.1, .ref A.2.2, .int S.2.2.2.1, .int S.2.2.2.2.1, .int S.2.2.2.2.2.1, .int S.2.2.2.2.2.2]) := (zk21 84 (by omega) (by omega)).trans q20_2
          have q21_3 : H21.2 A.1 = .inl (0, 8, .inl S.1) := (zk21 A.1 (by omega) (by omega)).trans q20_3
          have q21_4 : H21.2 A.2.1 = .inl (0, 8, .inl S.2.1) := (zk21 A.2.1 (by omega) (by omega)).trans q20_4
          have q21_5 : H21.2 A.2.2 = .inl (2, 8, .inl S.2.2.1) := (zk21 A.2.2 (by omega) (by omega)).trans q20_5
          have q21_6 : H21.2 41 = .inr (0, [.ref 51, .int 0]) := (zk21 41 (by omega) (by omega)).trans q20_6
          have q21_7 : H21.2 51 = .inl (3, 1, .inl sb41) := (zk21 51 (by omega) (by omega)).trans q20_7
          have q21_8 : H21.2 s9 = .inr (0, [.ref v9, .int 0]) := (zk21 s9 (by omega) (by omega)).trans q20_8
          have q21_9 : H21.2 v9 = .inl (3, L9, .inl f9) := (zk21 v9 (by omega) (by omega)).trans q20_9
          have zf21 : ∀ j : Nat, j < hp.1 → H21.2 j = hp.2 j := fun j h0 => (zk21 j (by omega) (by omega)).trans (zf20 j h0)
          show qq_Go _ H21 2 20 121 [(0, .ref 84), (1, .int cell), (2, .ref 41)] [.ref hp.1] _ _
          refine qq_callVS (bc := 0) (bs := 0) (mc := 2) (ms := 20) (as := []) (rest := []) (o := hp.1) (ci := 1) (N := 4) (T := TJ4) dX7_text_121 qb21 rfl (mt_tos H21 _ _ _ _ _ bg21 (by omega) (by omega) (by omega) qb21 qw21 (by omega) (by omega) (by omega)) rfl kl_X7_223 kn_J4_toString_0e30d ke_J4_toString_0e30d ki_J4 kc_J4_toString_0e30d kd_J4_toString_0e30d rfl (by decide) (by decide) (Nat.le_of_ble_eq_true rfl) (fun v H22 hv _ _ => ?_) (fun E hp' zx _ _ => zx.elim)
          obtain ⟨rfl, zz22, zk22⟩ := hv
          rw [zs21] at zz22
          rw [zs21]
          have zs22 : H22.1 = hp.1 + 4 := by omega
          replace zk22 : ∀ j : Nat, j < hp.1 + 2 → H22.2 j = H21.2 j := fun j a => zk22 j (by omega)
          have q22_0 : H22.2 7 = .inl (3, 100, .inl t_d1) := (zk22 7 (by omega)).trans q21_0
          have q22_1 : H22.2 8 = .inl (3, 100, .inl t_d2) := (zk22 8 (by omega)).trans q21_1
          have q22_2 : H22.2 84 = .inr (4, [.ref 85, .ref 86, .ref 89, .ref 90, .ref A.1, .ref A.2.1, .ref A.2.2, .int S.2.2.2.1, .int S.2.2.2.2.1, .int S.2.2.2.2.2.1, .int S.2.2.2.2.2.2]) := (zk22 84 (by omega)).trans q21_2
          have q22_3 : H22.2 A.1 = .inl (0, 8, .inl S.1) := (zk22 A.1 (by omega)).trans q21_3
          have q22_4 : H22.2 A.2.1 = .inl (0, 8, .inl S.2.1) := (zk22 A.2.1 (by omega)).trans q21_4
          have q22_5 : H22.2 A.2.2 = .inl (2, 8, .inl S.2.2.1) := (zk22 A.2.2 (by omega)).trans q21_5
          have q22_6 : H22.2 41 = .inr (0, [.ref 51, .int 0]) := (zk22 41 (by omega)).trans q21_6
          have q22_7 : H22.2 51 = .inl (3, 1, .inl sb41) := (zk22 51 (by omega)).trans q21_7
          have q22_8 : H22.2 s9 = .inr (0, [.ref v9, .int 0]) := (zk22 s9 (by omega)).trans q21_8
          have q22_9 : H22.2 v9 = .inl (3, L9, .inl f9) := (zk22 v9 (by omega)).trans q21_9
          have q22_10 : H22.2 hp.1 = .inr (1, [.ref (hp.1 + 1), .int 0, .int 0, .int (Int32.ofNat k21)]) := (zk22 hp.1 (by omega)).trans qb21
          have q22_11 : H22.2 (hp.1 + 1) = .inl (3, 16, .inl g21) := (zk22 (hp.1 + 1) (by omega)).trans qw21
          have zf22 : ∀ j : Nat, j < hp.1 → H22.2 j = hp.2 j := fun j h0 => (zk22 j (by omega)).trans (zf21 j h0)
          show qq_Go _ H22 0 0 124 [(0, .ref 84), (1, .int cell), (2, .ref 41)] [.ref (hp.1 + 2)] _ _
          exact qq_aret dX7_text_124 rfl (Or.inl ⟨_, rfl⟩) (Or.inr ⟨_, rfl⟩) ⟨⟨_, rfl⟩, ms_g hS (by omega) zf22⟩
        · refine qq_new (ci := 1) (N := 4) (C := RJ4) (T := TJ4) (fs := [.null, .int 0, .int 0, .int 0]) (bc := 3) (bs := 36) (ms := 4) dX7_text_70 rfl ku_J4 tyJ4 tyJ4_ok kl_X7_214 kx_J4 ki_J4 (by decide +kernel) new_w (by decide) ?_
          obtain ⟨H23, he23⟩ : ∃ h : qq_H, (hp.1 + 1, va_up hp.2 hp.1 (.inr (1, [.null, .int 0, .int 0, .int 0]))) = h := ⟨_, rfl⟩
          refine qq_hp (hp2 := H23) he23 ?_
          have zk23 : ∀ j : Nat, j ≠ hp.1 → H23.2 j = hp.2 j := fun j d0 => by rw [← he23]; exact up_o d0 rfl
          have zs23 : H23.1 = hp.1 + 1 := by rw [← he23]
          have q23_0 : H23.2 7 = .inl (3, 100, .inl t_d1) := (zk23 7 (by omega)).trans (hE.2 7 (by decide) (by decide))
          have q23_1 : H23.2 8 = .inl (3, 100, .inl t_d2) := (zk23 8 (by omega)).trans (hE.2 8 (by decide) (by decide))
          have q23_2 : H23.2 84 = .inr (4, [.ref 85, .ref 86, .ref 89, .ref 90, .ref A.1, .ref A.2.1, .ref A.2.2, .int S.2.2.2.1, .int S.2.2.2.2.1, .int S.2.2.2.2.2.1, .int S.2.2.2.2.2.2]) := (zk23 84 (by omega)).trans hS.2.2.1
          have q23_3 : H23.2 A.1 = .inl (0, 8, .inl S.1) := (zk23 A.1 (by omega)).trans hS.2.2.2.1
          have q23_4 : H23.2 A.2.1 = .inl (0, 8, .inl S.2.1) := (zk23 A.2.1 (by omega)).trans hS.2.2.2.2.1
          have q23_5 : H23.2 A.2.2 = .inl (2, 8, .inl S.2.2.1) := (zk23 A.2.2 (by omega)).trans hS.2.2.2.2.2.1
          have q23_6 : H23.2 41 = .inr (0, [.ref 51, .int 0]) := (zk23 41 (by omega)).trans y4.1
          have q23_7 : H23.2 51 = .inl (3, 1, .inl sb41) := (zk23 51 (by omega)).trans y4.2.1
          have q23_8 : H23.2 hp.1 = .inr (1, [.null, .int 0, .int 0, .int 0]) := by rw [← he23]; exact up_p
          have zf23 : ∀ j : Nat, j < hp.1 → H23.2 j = hp.2 j := fun j h0 => (zk23 j (by omega)).trans rfl
          show qq_Go _ H23 3 36 73 [(0, .ref 84), (1, .int cell), (2, .ref 41)] [.ref hp.1] _ _
          refine qq_dup dX7_text_73 rfl ?_
          refine qq_callI (bc := 2) (bs := 20) (mc := 1) (ms := 16) (as := []) (rest := [.ref hp.1]) (o := hp.1) dX7_text_74 (mt_sbi H23 _ (by omega) (by omega) q23_8) rfl rfl rfl kl_X7_216 kn_J4_init_da8c8 ki_J4 kc_J4_init_da8c8 kd_J4_init_da8c8 rfl (by decide) (by decide) (Nat.le_of_ble_eq_true rfl) (fun v H24 hv _ _ => ?_) (fun E hp' zx _ _ => zx.elim)
          obtain ⟨rfl, ⟨qb24, g24, qw24, bg24⟩, zz24, zk24⟩ := hv
          rw [zs23] at qb24 qw24
          have zs24 : H24.1 = hp.1 + 2 := by omega
          replace zk24 : ∀ j : Nat, j < hp.1 + 1 → j ≠ hp.1 → H24.2 j = H23.2 j := fun j a b => zk24 j (by omega) b
          have q24_0 : H24.2 7 = .inl (3, 100, .inl t_d1) := (zk24 7 (by omega) (by omega)).trans q23_0
          have q24_1 : H24.2 8 = .inl (3, 100, .inl t_d2) := (zk24 8 (by omega) (by omega)).trans q23_1
          have q24_2 : H24.2 84 = .inr (4, [.ref 85, .ref 86, .ref 89, .ref 90, .ref A.1, .ref A.2.1, .ref A.2.2, .int S.2.2.2.1, .int S.2.2.2.2.1, .int S.2.2.2.2.2.1, .int S.2.2.2.2.2.2]) := (zk24 84 (by omega) (by omega)).trans q23_2
          have q24_3 : H24.2 A.1 = .inl (0, 8, .inl S.1) := (zk24 A.1 (by omega) (by omega)).trans q23_3
          have q24_4 : H24.2 A.2.1 = .inl (0, 8, .inl S.2.1) := (zk24 A.2.1 (by omega) (by omega)).trans q23_4
          have q24_5 : H24.2 A.2.2 = .inl (2, 8, .inl S.2.2.1) := (zk24 A.2.2 (by omega) (by omega)).trans q23_5
          have q24_6 : H24.2 41 = .inr (0, [.ref 51, .int 0]) := (zk24 41 (by omega) (by omega)).trans q23_6
          have q24_7 : H24.2 51 = .inl (3, 1, .inl sb41) := (zk24 51 (by omega) (by omega)).trans q23_7
          have zf24 : ∀ j : Nat, j < hp.1 → H24.2 j = hp.2 j := fun j h0 => (zk24 j (by omega) (by omega)).trans (zf23 j h0)
          show qq_Go _ H24 2 20 77 [(0, .ref 84), (1, .int cell), (2, .ref 41)] [.ref hp.1] _ _
          refine qq_aload_n dX7_text_77 rfl 2 rfl ?_
          refine qq_callVS (bc := 2) (bs := 20) (mc := 0) (ms := 0) (as := [.ref 41]) (rest := []) (o := hp.1) (ci := 1) (N := 4) (T := TJ4) dX7_text_78 qb24 rfl (mt_aps H24 _ _ _ _ (by omega) (by omega) q24_6 q24_7 y4.2.2.1 _ _ _ _ _ bg24 (by omega) (by omega) (by omega) qb24 qw24 (by omega)) rfl kl_X7_217 kn_J4_append_15ec4 ke_J4_append_15ec4 ki_J4 kc_J4_append_15ec4 kd_J4_append_15ec4 rfl (by decide) (by decide) (Nat.le_of_ble_eq_true rfl) (fun v H25 hv _ _ => ?_) (fun E hp' zx _ _ => zx.elim)
          obtain ⟨rfl, ⟨qb25, g25, qw25, bg25⟩, zz25, zk25⟩ := hv
          have zs25 : H25.1 = hp.1 + 2 := by omega
          have q25_0 : H25.2 7 = .inl (3, 100, .inl t_d1) := (zk25 7 (by omega) (by omega)).trans q24_0
          have q25_1 : H25.2 8 = .inl (3, 100, .inl t_d2) := (zk25 8 (by omega) (by omega)).trans q24_1
          have q25_2 : H25.2 84 = .inr (4, [.ref 85, .ref 86, .ref 89, .ref 90, .ref A.1, .ref A.2.1, .ref A.2.2, .int S.2.2.2.1, .int S.2.2.2.2.1, .int S.2.2.2.2.2.1, .int S.2.2.2.2.2.2]) := (zk25 84 (by omega) (by omega)).trans q24_2
          have q25_3 : H25.2 A.1 = .inl (0, 8, .inl S.1) := (zk25 A.1 (by omega) (by omega)).trans q24_3
          have q25_4 : H25.2 A.2.1 = .inl (0, 8, .inl S.2.1) := (zk25 A.2.1 (by omega) (by omega)).trans q24_4
          have q25_5 : H25.2 A.2.2 = .inl (2, 8, .inl S.2.2.1) := (zk25 A.2.2 (by omega) (by omega)).trans q24_5
          have q25_6 : H25.2 41 = .inr (0, [.ref 51, .int 0]) := (zk25 41 (by omega) (by omega)).trans q24_6
          have q25_7 : H25.2 51 = .inl (3, 1, .inl sb41) := (zk25 51 (by omega) (by omega)).trans q24_7
          have zf25 : ∀ j : Nat, j < hp.1 → H25.2 j = hp.2 j := fun j h0 => (zk25 j (by omega) (by omega)).trans (zf24 j h0)
          show qq_Go _ H25 2 20 81 [(0, .ref 84), (1, .int cell), (2, .ref 41)] [.ref hp.1] _ _
          refine qq_ldcs (tx := "zero") (a := 43) dX7_text_81 (by decide +kernel) ?_
          have y5 : tst 43 53 4 sb43 H25 := (tst_43 hE).g hE.1 zf25
          refine qq_callVS (bc := 2) (bs := 20) (mc := 0) (ms := 0) (as := [.ref 43]) (rest := []) (o := hp.1) (ci := 1) (N := 4) (T := TJ4) dX7_text_83 qb25 rfl (mt_aps H25 _ _ _ _ (by omega) (by omega) y5.1 y5.2.1 y5.2.2.1 _ _ _ _ _ bg25 (by omega) (by omega) (by omega) qb25 qw25 (by omega)) rfl kl_X7_217 kn_J4_append_15ec4 ke_J4_append_15ec4 ki_J4 kc_J4_append_15ec4 kd_J4_append_15ec4 rfl (by decide) (by decide) (Nat.le_of_ble_eq_true rfl) (fun v H26 hv _ _ => ?_) (fun E hp' zx _ _ => zx.elim)
          obtain ⟨rfl, ⟨qb26, g26, qw26, bg26⟩, zz26, zk26⟩ := hv
          have zs26 : H26.1 = hp.1 + 2 := by omega
          have q26_0 : H26.2 7 = .inl (3, 100, .inl t_d1) := (zk26 7 (by omega) (by omega)).trans q25_0
          have q26_1 : H26.2 8 = .inl (3, 100, .inl t_d2) := (zk26 8 (by omega) (by omega)).trans q25_1
          have q26_2 : H26.2 84 = .inr (4, [.ref 85, .ref 86, .ref 89, .ref 90, .ref A.1, .ref A.2.1, .ref A.2.2, .int S.2.2.2.1, .int S.2.2.2.2.1, .int S.2.2.2.2.2.1, .int S.2.2.2.2.2.2]) := (zk26 84 (by omega) (by omega)).trans q25_2
          have q26_3 : H26.2 A.1 = .inl (0, 8, .inl S.1) := (zk26 A.1 (by omega) (by omega)).trans q25_3
          have q26_4 : H26.2 A.2.1 = .inl (0, 8, .inl S.2.1) := (zk26 A.2.1 (by omega) (by omega)).trans q25_4
          have q26_5 : H26.2 A.2.2 = .inl (2, 8, .inl S.2.2.1) := (zk26 A.2.2 (by omega) (by omega)).trans q25_5
          have q26_6 : H26.2 41 = .inr (0, [.ref 51, .int 0]) := (zk26 41 (by omega) (by omega)).trans q25_6
          have q26_7 : H26.2 51 = .inl (3, 1, .inl sb41) := (zk26 51 (by omega) (by omega)).trans q25_7
          have q26_8 : H26.2 43 = .inr (0, [.ref 53, .int 0]) := (zk26 43 (by omega) (by omega)).trans y5.1
          have q26_9 : H26.2 53 = .inl (3, 4, .inl sb43) := (zk26 53 (by omega) (by omega)).trans y5.2.1
          have zf26 : ∀ j : Nat, j < hp.1 → H26.2 j = hp.2 j := fun j h0 => (zk26 j (by omega) (by omega)).trans (zf25 j h0)
          show qq_Go _ H26 2 20 86 [(0, .ref 84), (1, .int cell), (2, .ref 41)] [.ref hp.1] _ _
          refine qq_callVS (bc := 0) (bs := 0) (mc := 2) (ms := 20) (as := []) (rest := []) (o := hp.1) (ci := 1) (N := 4) (T := TJ4) dX7_text_86 qb26 rfl (mt_tos H26 _ _ _ _ _ bg26 (by omega) (by omega) (by omega) qb26 qw26 (by omega) (by omega) (by omega)) rfl kl_X7_223 kn_J4_toString_0e30d ke_J4_toString_0e30d ki_J4 kc_J4_toString_0e30d kd_J4_toString_0e30d rfl (by decide) (by decide) (Nat.le_of_ble_eq_true rfl) (fun v H27 hv _ _ => ?_) (fun E hp' zx _ _ => zx.elim)
          obtain ⟨rfl, zz27, zk27⟩ := hv
          rw [zs26] at zz27
          rw [zs26]
          have zs27 : H27.1 = hp.1 + 4 := by omega
          replace zk27 : ∀ j : Nat, j < hp.1 + 2 → H27.2 j = H26.2 j := fun j a => zk27 j (by omega)
          have q27_0 : H27.2 7 = .inl (3, 100, .inl t_d1) := (zk27 7 (by omega)).trans q26_0
          have q27_1 : H27.2 8 = .inl (3, 100, .inl t_d2) := (zk27 8 (by omega)).trans q26_1
          have q27_2 : H27.2 84 = .inr (4, [.ref 85, .ref 86, .ref 89, .ref 90, .ref A.1, .ref A.2.1, .ref A.2.2, .int S.2.2.2.1, .int S.2.2.2.2.1, .int S.2.2.2.2.2.1, .int S.2.2.2.2.2.2]) := (zk27 84 (by omega)).trans q26_2
          have q27_3 : H27.2 A.1 = .inl (0, 8, .inl S.1) := (zk27 A.1 (by omega)).trans q26_3
          have q27_4 : H27.2 A.2.1 = .inl (0, 8, .inl S.2.1) := (zk27 A.2.1 (by omega)).trans q26_4
          have q27_5 : H27.2 A.2.2 = .inl (2, 8, .inl S.2.2.1) := (zk27 A.2.2 (by omega)).trans q26_5
          have q27_6 : H27.2 41 = .inr (0, [.ref 51, .int 0]) := (zk27 41 (by omega)).trans q26_6
          have q27_7 : H27.2 51 = .inl (3, 1, .inl sb41) := (zk27 51 (by omega)).trans q26_7
          have q27_8 : H27.2 43 = .inr (0, [.ref 53, .int 0]) := (zk27 43 (by omega)).trans q26_8
          have q27_9 : H27.2 53 = .inl (3, 4, .inl sb43) := (zk27 53 (by omega)).trans q26_9
          have q27_10 : H27.2 hp.1 = .inr (1, [.ref (hp.1 + 1), .int 0, .int 0, .int (Int32.ofNat ((0 + 1) + 4))]) := (zk27 hp.1 (by omega)).trans qb26
          have q27_11 : H27.2 (hp.1 + 1) = .inl (3, 16, .inl g26) := (zk27 (hp.1 + 1) (by omega)).trans qw26
          have zf27 : ∀ j : Nat, j < hp.1 → H27.2 j = hp.2 j := fun j h0 => (zk27 j (by omega)).trans (zf26 j h0)
          show qq_Go _ H27 0 0 89 [(0, .ref 84), (1, .int cell), (2, .ref 41)] [.ref (hp.1 + 2)] _ _
          refine qq_goto (tgt := 124) dX7_text_89 (by decide) ?_
          exact qq_aret dX7_text_124 rfl (Or.inl ⟨_, rfl⟩) (Or.inr ⟨_, rfl⟩) ⟨⟨_, rfl⟩, ms_g hS (by omega) zf27⟩
      · refine qq_new (ci := 1) (N := 4) (C := RJ4) (T := TJ4) (fs := [.null, .int 0, .int 0, .int 0]) (bc := 3) (bs := 36) (ms := 4) dX7_text_42 rfl ku_J4 tyJ4 tyJ4_ok kl_X7_214 kx_J4 ki_J4 (by decide +kernel) new_w (by decide) ?_
        obtain ⟨H28, he28⟩ : ∃ h : qq_H, (hp.1 + 1, va_up hp.2 hp.1 (.inr (1, [.null, .int 0, .int 0, .int 0]))) = h := ⟨_, rfl⟩
        refine qq_hp (hp2 := H28) he28 ?_
        have zk28 : ∀ j : Nat, j ≠ hp.1 → H28.2 j = hp.2 j := fun j d0 => by rw [← he28]; exact up_o d0 rfl
        have zs28 : H28.1 = hp.1 + 1 := by rw [← he28]
        have q28_0 : H28.2 7 = .inl (3, 100, .inl t_d1) := (zk28 7 (by omega)).trans (hE.2 7 (by decide) (by decide))
        have q28_1 : H28.2 8 = .inl (3, 100, .inl t_d2) := (zk28 8 (by omega)).trans (hE.2 8 (by decide) (by decide))
        have q28_2 : H28.2 84 = .inr (4, [.ref 85, .ref 86, .ref 89, .ref 90, .ref A.1, .ref A.2.1, .ref A.2.2, .int S.2.2.2.1, .int S.2.2.2.2.1, .int S.2.2.2.2.2.1, .int S.2.2.2.2.2.2]) := (zk28 84 (by omega)).trans hS.2.2.1
        have q28_3 : H28.2 A.1 = .inl (0, 8, .inl S.1) := (zk28 A.1 (by omega)).trans hS.2.2.2.1
        have q28_4 : H28.2 A.2.1 = .inl (0, 8, .inl S.2.1) := (zk28 A.2.1 (by omega)).trans hS.2.2.2.2.1
        have q28_5 : H28.2 A.2.2 = .inl (2, 8, .inl S.2.2.1) := (zk28 A.2.2 (by omega)).trans hS.2.2.2.2.2.1
        have q28_6 : H28.2 41 = .inr (0, [.ref 51, .int 0]) := (zk28 41 (by omega)).trans y4.1
        have q28_7 : H28.2 51 = .inl (3, 1, .inl sb41) := (zk28 51 (by omega)).trans y4.2.1
        have q28_8 : H28.2 hp.1 = .inr (1, [.null, .int 0, .int 0, .int 0]) := by rw [← he28]; exact up_p
        have zf28 : ∀ j : Nat, j < hp.1 → H28.2 j = hp.2 j := fun j h0 => (zk28 j (by omega)).trans rfl
        show qq_Go _ H28 3 36 45 [(0, .ref 84), (1, .int cell), (2, .ref 41)] [.ref hp.1] _ _
        refine qq_dup dX7_text_45 rfl ?_
        refine qq_callI (bc := 2) (bs := 20) (mc := 1) (ms := 16) (as := []) (rest := [.ref hp.1]) (o := hp.1) dX7_text_46 (mt_sbi H28 _ (by omega) (by omega) q28_8) rfl rfl rfl kl_X7_216 kn_J4_init_da8c8 ki_J4 kc_J4_init_da8c8 kd_J4_init_da8c8 rfl (by decide) (by decide) (Nat.le_of_ble_eq_true rfl) (fun v H29 hv _ _ => ?_) (fun E hp' zx _ _ => zx.elim)
        obtain ⟨rfl, ⟨qb29, g29, qw29, bg29⟩, zz29, zk29⟩ := hv
        rw [zs28] at qb29 qw29
        have zs29 : H29.1 = hp.1 + 2 := by omega
        replace zk29 : ∀ j : Nat, j < hp.1 + 1 → j ≠ hp.1 → H29.2 j = H28.2 j := fun j a b => zk29 j (by omega) b
        have q29_0 : H29.2 7 = .inl (3, 100, .inl t_d1) := (zk29 7 (by omega) (by omega)).trans q28_0
        have q29_1 : H29.2 8 = .inl (3, 100, .inl t_d2) := (zk29 8 (by omega) (by omega)).trans q28_1
        have q29_2 : H29.2 84 = .inr (4, [.ref 85, .ref 86, .ref 89, .ref 90, .ref A.1, .ref A.2.1, .ref A.2.2, .int S.2.2.2.1, .int S.2.2.2.2.1, .int S.2.2.2.2.2.1, .int S.2.2.2.2.2.2]) := (zk29 84 (by omega) (by omega)).trans q28_2
        have q29_3 : H29.2 A.1 = .inl (0, 8, .inl S.1) := (zk29 A.1 (by omega) (by omega)).trans q28_3
        have q29_4 : H29.2 A.2.1 = .inl (0, 8, .inl S.2.1) := (zk29 A.2.1 (by omega) (by omega)).trans q28_4
        have q29_5 : H29.2 A.2.2 = .inl (2, 8, .inl S.2.2.1) := (zk29 A.2.2 (by omega) (by omega)).trans q28_5
        have q29_6 : H29.2 41 = .inr (0, [.ref 51, .int 0]) := (zk29 41 (by omega) (by omega)).trans q28_6
        have q29_7 : H29.2 51 = .inl (3, 1, .inl sb41) := (zk29 51 (by omega) (by omega)).trans q28_7
        have zf29 : ∀ j : Nat, j < hp.1 → H29.2 j = hp.2 j := fun j h0 => (zk29 j (by omega) (by omega)).trans (zf28 j h0)
        show qq_Go _ H29 2 20 49 [(0, .ref 84), (1, .int cell), (2, .ref 41)] [.ref hp.1] _ _
        refine qq_aload_n dX7_text_49 rfl 2 rfl ?_
        refine qq_callVS (bc := 2) (bs := 20) (mc := 0) (ms := 0) (as := [.ref 41]) (rest := []) (o := hp.1) (ci := 1) (N := 4) (T := TJ4) dX7_text_50 qb29 rfl (mt_aps H29 _ _ _ _ (by omega) (by omega) q29_6 q29_7 y4.2.2.1 _ _ _ _ _ bg29 (by omega) (by omega) (by omega) qb29 qw29 (by omega)) rfl kl_X7_217 kn_J4_append_15ec4 ke_J4_append_15ec4 ki_J4 kc_J4_append_15ec4 kd_J4_append_15ec4 rfl (by decide) (by decide) (Nat.le_of_ble_eq_true rfl) (fun v H30 hv _ _ => ?_) (fun E hp' zx _ _ => zx.elim)
        obtain ⟨rfl, ⟨qb30, g30, qw30, bg30⟩, zz30, zk30⟩ := hv
        have zs30 : H30.1 = hp.1 + 2 := by omega
        have q30_0 : H30.2 7 = .inl (3, 100, .inl t_d1) := (zk30 7 (by omega) (by omega)).trans q29_0
        have q30_1 : H30.2 8 = .inl (3, 100, .inl t_d2) := (zk30 8 (by omega) (by omega)).trans q29_1
        have q30_2 : H30.2 84 = .inr (4, [.ref 85, .ref 86, .ref 89, .ref 90, .ref A.1, .ref A.2.1, .ref A.2.2, .int S.2.2.2.1, .int S.2.2.2.2.1, .int S.2.2.2.2.2.1, .int S.2.2.2.2.2.2]) := (zk30 84 (by omega) (by omega)).trans q29_2
        have q30_3 : H30.2 A.1 = .inl (0, 8, .inl S.1) := (zk30 A.1 (by omega) (by omega)).trans q29_3
        have q30_4 : H30.2 A.2.1 = .inl (0, 8, .inl S.2.1) := (zk30 A.2.1 (by omega) (by omega)).trans q29_4
        have q30_5 : H30.2 A.2.2 = .inl (2, 8, .inl S.2.2.1) := (zk30 A.2.2 (by omega) (by omega)).trans q29_5
        have q30_6 : H30.2 41 = .inr (0, [.ref 51, .int 0]) := (zk30 41 (by omega) (by omega)).trans q29_6
        have q30_7 : H30.2 51 = .inl (3, 1, .inl sb41) := (zk30 51 (by omega) (by omega)).trans q29_7
        have zf30 : ∀ j : Nat, j < hp.1 → H30.2 j = hp.2 j := fun j h0 => (zk30 j (by omega) (by omega)).trans (zf29 j h0)
        show qq_Go _ H30 2 20 53 [(0, .ref 84), (1, .int cell), (2, .ref 41)] [.ref hp.1] _ _
        refine qq_ldcs (tx := "endless") (a := 42) dX7_text_53 (by decide +kernel) ?_
        have y6 : tst 42 52 7 sb42 H30 := (tst_42 hE).g hE.1 zf30
        refine qq_callVS (bc := 2) (bs := 20) (mc := 0) (ms := 0) (as := [.ref 42]) (rest := []) (o := hp.1) (ci := 1) (N := 4) (T := TJ4) dX7_text_55 qb30 rfl (mt_aps H30 _ _ _ _ (by omega) (by omega) y6.1 y6.2.1 y6.2.2.1 _ _ _ _ _ bg30 (by omega) (by omega) (by omega) qb30 qw30 (by omega)) rfl kl_X7_217 kn_J4_append_15ec4 ke_J4_append_15ec4 ki_J4 kc_J4_append_15ec4 kd_J4_append_15ec4 rfl (by decide) (by decide) (Nat.le_of_ble_eq_true rfl) (fun v H31 hv _ _ => ?_) (fun E hp' zx _ _ => zx.elim)
        obtain ⟨rfl, ⟨qb31, g31, qw31, bg31⟩, zz31, zk31⟩ := hv
        have zs31 : H31.1 = hp.1 + 2 := by omega
        have q31_0 : H31.2 7 = .inl (3, 100, .inl t_d1) := (zk31 7 (by omega) (by omega)).trans q30_0
        have q31_1 : H31.2 8 = .inl (3, 100, .inl t_d2) := (zk31 8 (by omega) (by omega)).trans q30_1
        have q31_2 : H31.2 84 = .inr (4, [.ref 85, .ref 86, .ref 89, .ref 90, .ref A.1, .ref A.2.1, .ref A.2.2, .int S.2.2.2.1, .int S.2.2.2.2.1, .int S.2.2.2.2.2.1, .int S.2.2.2.2.2.2]) := (zk31 84 (by omega) (by omega)).trans q30_2
        have q31_3 : H31.2 A.1 = .inl (0, 8, .inl S.1) := (zk31 A.1 (by omega) (by omega)).trans q30_3
        have q31_4 : H31.2 A.2.1 = .inl (0, 8, .inl S.2.1) := (zk31 A.2.1 (by omega) (by omega)).trans q30_4
        have q31_5 : H31.2 A.2.2 = .inl (2, 8, .inl S.2.2.1) := (zk31 A.2.2 (by omega) (by omega)).trans q30_5
        have q31_6 : H31.2 41 = .inr (0, [.ref 51, .int 0]) := (zk31 41 (by omega) (by omega)).trans q30_6
        have q31_7 : H31.2 51 = .inl (3, 1, .inl sb41) := (zk31 51 (by omega) (by omega)).trans q30_7
        have q31_8 : H31.2 42 = .inr (0, [.ref 52, .int 0]) := (zk31 42 (by omega) (by omega)).trans y6.1
        have q31_9 : H31.2 52 = .inl (3, 7, .inl sb42) := (zk31 52 (by omega) (by omega)).trans y6.2.1
        have zf31 : ∀ j : Nat, j < hp.1 → H31.2 j = hp.2 j := fun j h0 => (zk31 j (by omega) (by omega)).trans (zf30 j h0)
        show qq_Go _ H31 2 20 58 [(0, .ref 84), (1, .int cell), (2, .ref 41)] [.ref hp.1] _ _
        refine qq_callVS (bc := 0) (bs := 0) (mc := 2) (ms := 20) (as := []) (rest := []) (o := hp.1) (ci := 1) (N := 4) (T := TJ4) dX7_text_58 qb31 rfl (mt_tos H31 _ _ _ _ _ bg31 (by omega) (by omega) (by omega) qb31 qw31 (by omega) (by omega) (by omega)) rfl kl_X7_223 kn_J4_toString_0e30d ke_J4_toString_0e30d ki_J4 kc_J4_toString_0e30d kd_J4_toString_0e30d rfl (by decide) (by decide) (Nat.le_of_ble_eq_true rfl) (fun v H32 hv _ _ => ?_) (fun E hp' zx _ _ => zx.elim)
        obtain ⟨rfl, zz32, zk32⟩ := hv
        rw [zs31] at zz32
        rw [zs31]
        have zs32 : H32.1 = hp.1 + 4 := by omega
        replace zk32 : ∀ j : Nat, j < hp.1 + 2 → H32.2 j = H31.2 j := fun j a => zk32 j (by omega)
        have q32_0 : H32.2 7 = .inl (3, 100, .inl t_d1) := (zk32 7 (by omega)).trans q31_0
        have q32_1 : H32.2 8 = .inl (3, 100, .inl t_d2) := (zk32 8 (by omega)).trans q31_1
        have q32_2 : H32.2 84 = .inr (4, [.ref 85, .ref 86, .ref 89, .ref 90, .ref A.1, .ref A.2.1, .ref A.2.2, .int S.2.2.2.1, .int S.2.2.2.2.1, .int S.2.2.2.2.2.1, .int S.2.2.2.2.2.2]) := (zk32 84 (by omega)).trans q31_2
        have q32_3 : H32.2 A.1 = .inl (0, 8, .inl S.1) := (zk32 A.1 (by omega)).trans q31_3
        have q32_4 : H32.2 A.2.1 = .inl (0, 8, .inl S.2.1) := (zk32 A.2.1 (by omega)).trans q31_4
        have q32_5 : H32.2 A.2.2 = .inl (2, 8, .inl S.2.2.1) := (zk32 A.2.2 (by omega)).trans q31_5
        have q32_6 : H32.2 41 = .inr (0, [.ref 51, .int 0]) := (zk32 41 (by omega)).trans q31_6
        have q32_7 : H32.2 51 = .inl (3, 1, .inl sb41) := (zk32 51 (by omega)).trans q31_7
        have q32_8 : H32.2 42 = .inr (0, [.ref 52, .int 0]) := (zk32 42 (by omega)).trans q31_8
        have q32_9 : H32.2 52 = .inl (3, 7, .inl sb42) := (zk32 52 (by omega)).trans q31_9
        have q32_10 : H32.2 hp.1 = .inr (1, [.ref (hp.1 + 1), .int 0, .int 0, .int (Int32.ofNat ((0 + 1) + 7))]) := (zk32 hp.1 (by omega)).trans qb31
        have q32_11 : H32.2 (hp.1 + 1) = .inl (3, 16, .inl g31) := (zk32 (hp.1 + 1) (by omega)).trans qw31
        have zf32 : ∀ j : Nat, j < hp.1 → H32.2 j = hp.2 j := fun j h0 => (zk32 j (by omega)).trans (zf31 j h0)
        show qq_Go _ H32 0 0 61 [(0, .ref 84), (1, .int cell), (2, .ref 41)] [.ref (hp.1 + 2)] _ _
        exact qq_aret dX7_text_61 rfl (Or.inl ⟨_, rfl⟩) (Or.inr ⟨_, rfl⟩) ⟨⟨_, rfl⟩, ms_g hS (by omega) zf32⟩
  · refine qq_ldcs (tx := "") (a := 40) dX7_text_12 (by decide +kernel) ?_
    have y7 : tst 40 50 0 sb40 hp := tst_40 hE
    exact qq_aret dX7_text_14 rfl (Or.inl ⟨_, rfl⟩) (Or.inr ⟨_, rfl⟩) ⟨⟨_, rfl⟩, hS, fr_r A hp⟩
set_option maxRecDepth 4000 in
theorem mt_X7_text (hp : qq_H) (A : qA) (S : sM) (hS : ms_M A S hp) (zI : IM S) (cell : Int32) : qq_Mt mX7_text [.ref 84, .int cell] hp 4 40 (fun v hp' => (∃ r, v = some (.ref r)) ∧ ms_M A (r_X7_isRefused (f_X7_isNoCell cell) (0 : Int32) S).2 hp' ∧ fr A hp hp') (fun _ _ => False) := by
  refine qq_met pn_X7 (Nat.le_of_ble_eq_true rfl) (Nat.le_of_ble_eq_true rfl) kc_X7_text ?_
  show qq_Go _ hp 4 40 0 [(0, .ref 84), (1, .int cell)] [] _ _
  refine qq_aload_n dX7_text_0 rfl 0 rfl ?_
  refine qq_iload_n dX7_text_1 rfl 1 rfl ?_
  refine qq_callS (bc := 4) (bs := 40) (mc := 0) (ms := 0) (as := [.int cell]) (rest := [.ref 84]) dX7_text_2 (mt_X7_isNoCell hp cell) rfl kl_X7_123 ks_X7_isNoCell ki_X7 kc_X7_isNoCell kd_X7_isNoCell rfl (by decide) (by decide) (Nat.le_of_ble_eq_true rfl) (fun v hp' hv _ _ => ?_) (fun E hp' zx _ _ => zx.elim)
  obtain ⟨rfl, rfl⟩ := hv
  show qq_Go _ hp 4 40 5 [(0, .ref 84), (1, .int cell)] [.int (f_X7_isNoCell cell), .ref 84] _ _
  refine qq_iconst (v := 0) dX7_text_5 (by decide) ?_
  refine qq_callV (bc := 4) (bs := 40) (mc := 0) (ms := 0) (o := 84) (ci := 4) (N := 11) (T := TX7) (as := [.int (f_X7_isNoCell cell), .int 0]) (rest := []) dX7_text_6 hS.2.2.1 (by decide) rfl (mt_X7_isRefused hp A S hS (f_X7_isNoCell cell) (0 : Int32)) rfl kl_X7_126 kn_X7_isRefused ke_X7_isRefused ki_X7 kc_X7_isRefused kd_X7_isRefused rfl (by decide) (by decide) (Nat.le_of_ble_eq_true rfl) (fun v hp1 hv _ _ => ?_) (fun E hp' zx _ _ => zx.elim)
  obtain ⟨rfl, hS1, fr1⟩ := hv
  refine qq_post (fun v hq z => ⟨z.1, z.2.1, fr_t fr1 z.2.2⟩) (fun _ _ z => z.elim) (go_X7_text hp1 A (r_X7_isRefused (f_X7_isNoCell cell) 0 S).2 hS1 (im_ref zI) cell (r_X7_isRefused (f_X7_isNoCell cell) 0 S).1 (fun z => qx_cell (qx_ref z)))
