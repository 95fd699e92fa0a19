def lr_X5_isSound_45 (i : Int32) (kx : sX → Int32) : Nat → Int32 → sX → Int32
  | 0, _, _ => 0
  | fu + 1, j, S => if 8 ≤ j then kx  S else if (r_X5_isPairSound i j S) = 0 then 0 else lr_X5_isSound_45 i kx fu (j + 1) S
theorem bzl_X5_isSound_45 (i : Int32) (kx : sX → Int32) (zkx : ∀  (S : sX), kx  S = 0 ∨ kx  S = 1) : ∀ (fu : Nat) (j : Int32) (S : sX), lr_X5_isSound_45 i kx fu j S = 0 ∨ lr_X5_isSound_45 i kx fu j S = 1
  | 0, j, S => Or.inl rfl
  | fu + 1, j, S => by
    unfold lr_X5_isSound_45
    exact (qq_i01 (zkx  S) (qq_i01 (Or.inl rfl) (bzl_X5_isSound_45 i kx zkx fu (j + 1) S)))
set_option maxRecDepth 4000 in
theorem lq_X5_isSound_45 (i : Int32) (kx : sX → Int32) (hkx : ∀  (hp : qq_H) (S : sX), cs_X S hp →  qq_Go mX5_isSound hp 0 0 68 [(0, .ref 80), (1, .int i)] [] (fun v hp' => v = some (.int (kx  S)) ∧ hp = hp') (fun _ _ => False))   : ∀ (fu : Nat) (j : Int32) (hp : qq_H) (S : sX), cs_X S hp → ¬ j < 0 → ¬ i < 0 → ¬ 8 ≤ i → ((8 : Int32).toInt - j.toInt).toNat < fu → qq_Go mX5_isSound hp 0 0 45 [(0, .ref 80), (1, .int i), (2, .int j)] [] (fun v hp' => v = some (.int (lr_X5_isSound_45 i kx fu j S)) ∧ hp = hp') (fun _ _ => False)
  | 0, _, hp, _, _, _, _, _, zz => absurd zz (Nat.not_lt_zero _)
  | fu + 1, j, hp, S, hS, zj9, zi9, zi8, zh => by
    refine qq_iload_n dX5_isSound_45 rfl 2 rfl ?_
    refine qq_bipush (v := 8) dX5_isSound_46 (by decide) ?_
    refine qq_icmp_ge (tgt := 68) dX5_isSound_48 (by decide) (fun zc1 => ?_) (fun zc1 => ?_)
    · have ze : lr_X5_isSound_45 i kx (fu + 1) j S = kx  S := by
        rw [lr_X5_isSound_45, if_pos zc1]
      rw [ze]
      refine qq_loc [0, 1] rfl ?_
      exact hkx  hp S hS 
    · refine qq_aload_n dX5_isSound_51 rfl 0 rfl ?_
      refine qq_iload_n dX5_isSound_52 rfl 1 rfl ?_
      refine qq_iload_n dX5_isSound_53 rfl 2 rfl ?_
      refine qq_callV (bc := 0) (bs := 0) (mc := 0) (ms := 0) (o := 80) (ci := 2) (N := 6) (T := TX5) (as := [.int i, .int j]) (rest := []) dX5_isSound_54 hS.2.2.1 (by decide) rfl (mt_X5_isPairSound hp S hS i j (by first | assumption | exact ⟨by assumption, by assumption⟩ | exact qm_in8 (by assumption) (by assumption) | exact ⟨by assumption, qm_len (by assumption)⟩ | exact qm_in8d (by assumption) (by assumption) | decide) (by first | assumption | exact ⟨by assumption, by assumption⟩ | exact qm_in8 (by assumption) (by assumption) | exact ⟨by assumption, qm_len (by assumption)⟩ | exact qm_in8d (by assumption) (by assumption) | decide)) rfl kl_X5_218 kn_X5_isPairSound ke_X5_isPairSound ki_X5 kc_X5_isPairSound kd_X5_isPairSound rfl (by decide) (by decide) (Nat.le_of_ble_eq_true rfl) (fun v hp' hv _ _ => ?_) (fun E hp' zx _ _ => zx.elim)
      obtain ⟨rfl, rfl⟩ := hv
      show qq_Go _ hp 0 0 57 [(0, .ref 80), (1, .int i), (2, .int j)] [.int (r_X5_isPairSound i j S)] _ _
      refine qq_if_ne (tgt := 62) dX5_isSound_57 (by decide) (fun zc2 => ?_) (fun zc2 => ?_)
      · refine qq_iinc (v := j + 1) (loc' := [(0, .ref 80), (1, .int i), (2, .int (j + 1))]) dX5_isSound_62 2 rfl rfl [1, 2, 0] (Nat.le_of_ble_eq_true rfl) rfl ?_
        refine qq_goto (tgt := 45) dX5_isSound_65 (by decide) ?_
        have ze : lr_X5_isSound_45 i kx (fu + 1) j S = lr_X5_isSound_45 i kx fu (j + 1) S := by
          rw [lr_X5_isSound_45, if_neg zc1, if_neg zc2]
        rw [ze]
        exact lq_X5_isSound_45 i kx hkx fu (j + 1) hp S hS (qm_pos zj9 (by assumption)) zi9 zi8 (qm_up (by assumption) zh)
      · refine qq_iconst (v := 0) dX5_isSound_60 (by decide) ?_
        have ze : lr_X5_isSound_45 i kx (fu + 1) j S = 0 := by
          rw [lr_X5_isSound_45, if_neg zc1, if_pos zc2]
        exact qq_iret dX5_isSound_61 rfl rfl ⟨by rw [ze], rfl⟩
def lr_X5_isSound_2  : Nat → Int32 → sX → Int32
  | 0, _, _ => 0
  | fu + 1, i, S => if 8 ≤ i then r_X5_areTriplesSound S else if (S.2.1 i.toNatClampNeg) = (f_X1_digitsOf (S.1 i.toNatClampNeg)) then if (f_X5_isInItsPlace (S.1 i.toNatClampNeg)) = 0 then 0 else lr_X5_isSound_45 i (fun Sk => lr_X5_isSound_2 fu (i + 1) Sk) 9 (i + 1) S else 0
theorem bzl_X5_isSound_2  : ∀ (fu : Nat) (i : Int32) (S : sX), lr_X5_isSound_2 fu i S = 0 ∨ lr_X5_isSound_2 fu i S = 1
  | 0, i, S => Or.inl rfl
  | fu + 1, i, S => by
    unfold lr_X5_isSound_2
    exact (qq_i01 (bz_X5_areTriplesSound S) (qq_i01 (qq_i01 (Or.inl rfl) (bzl_X5_isSound_45 i (fun  Sk => lr_X5_isSound_2 fu (i + 1) Sk) (fun  Sk => (bzl_X5_isSound_2  fu (i + 1) Sk)) 9 (i + 1) S)) (Or.inl rfl)))
set_option maxRecDepth 4000 in
theorem lq_X5_isSound_2    : ∀ (fu : Nat) (i : Int32) (hp : qq_H) (S : sX), cs_X S hp → ¬ i < 0 → ((8 : Int32).toInt - i.toInt).toNat < fu → qq_Go mX5_isSound hp 0 0 2 [(0, .ref 80), (1, .int i)] [] (fun v hp' => v = some (.int (lr_X5_isSound_2 fu i S)) ∧ hp = hp') (fun _ _ => False)
  | 0, _, hp, _, _, _, zz => absurd zz (Nat.not_lt_zero _)
  | fu + 1, i, hp, S, hS, zp, zh => by
    refine qq_iload_n dX5_isSound_2 rfl 1 rfl ?_
    refine qq_bipush (v := 8) dX5_isSound_3 (by decide) ?_
    refine qq_icmp_ge (tgt := 74) dX5_isSound_5 (by decide) (fun zc1 => ?_) (fun zc1 => ?_)
    · refine qq_aload_n dX5_isSound_74 rfl 0 rfl ?_
      refine qq_callV (bc := 0) (bs := 0) (mc := 0) (ms := 0) (o := 80) (ci := 2) (N := 6) (T := TX5) (as := []) (rest := []) dX5_isSound_75 hS.2.2.1 (by decide) rfl (mt_X5_areTriplesSound hp S hS ) rfl kl_X5_221 kn_X5_areTriplesSound ke_X5_areTriplesSound ki_X5 kc_X5_areTriplesSound kd_X5_areTriplesSound rfl (by decide) (by decide) (Nat.le_of_ble_eq_true rfl) (fun v hp' hv _ _ => ?_) (fun E hp' zx _ _ => zx.elim)
      obtain ⟨rfl, rfl⟩ := hv
      show qq_Go _ hp 0 0 78 [(0, .ref 80), (1, .int i)] [.int (r_X5_areTriplesSound S)] _ _
      have ze : lr_X5_isSound_2 (fu + 1) i S = r_X5_areTriplesSound S := by
        rw [lr_X5_isSound_2, if_pos zc1]
      exact qq_iret dX5_isSound_78 rfl (qq_nz (bz_X5_areTriplesSound S)) ⟨by rw [ze], rfl⟩
    · refine qq_aload_n dX5_isSound_8 rfl 0 rfl ?_
      refine cx_get hS dX5_isSound_9 1 (by decide) rfl kl_X5_13 ?_
      refine qq_iload_n dX5_isSound_12 rfl 1 rfl ?_
      refine qq_lald dX5_isSound_13 hS.2.2.2.2.1 (by first | assumption | exact qm_in8 (by assumption) (by assumption) | exact qm_in8d (by assumption) (by assumption) | decide) ?_
      refine qq_aload_n dX5_isSound_14 rfl 0 rfl ?_
      refine cx_get hS dX5_isSound_15 0 (by decide) rfl kl_X5_9 ?_
      refine qq_iload_n dX5_isSound_18 rfl 1 rfl ?_
      refine qq_iald dX5_isSound_19 hS.2.2.2.1 (by first | assumption | exact qm_in8 (by assumption) (by assumption) | exact qm_in8d (by assumption) (by assumption) | decide) ?_
      refine qq_callS (bc := 0) (bs := 0) (mc := 0) (ms := 0) (as := [.int (S.1 i.toNatClampNeg)]) (rest := [.long (S.2.1 i.toNatClampNeg)]) dX5_isSound_20 (mt_X1_digitsOf hp (S.1 i.toNatClampNeg) hS.1) rfl kl_X5_26 ks_X1_digitsOf ki_X1 kc_X1_digitsOf kd_X1_digitsOf rfl (by decide) (by decide) (Nat.le_of_ble_eq_true rfl) (fun v hp' hv _ _ => ?_) (fun E hp' zx _ _ => zx.elim)
      obtain ⟨rfl, rfl⟩ := hv
      show qq_Go _ hp 0 0 23 [(0, .ref 80), (1, .int i)] [.long (f_X1_digitsOf (S.1 i.toNatClampNeg)), .long (S.2.1 i.toNatClampNeg)] _ _
      refine qq_lc_ne (tgt := 39) dX5_isSound_23 dX5_isSound_24 (by decide) (fun zc2 => ?_) (fun zc2 => ?_)
      · refine qq_iconst (v := 0) dX5_isSound_39 (by decide) ?_
        have ze : lr_X5_isSound_2 (fu + 1) i S = 0 := by
          rw [lr_X5_isSound_2, if_neg zc1, if_neg zc2]
        exact qq_iret dX5_isSound_40 rfl rfl ⟨by rw [ze], rfl⟩
      · refine qq_aload_n dX5_isSound_27 rfl 0 rfl ?_
        refine cx_get hS dX5_isSound_28 0 (by decide) rfl kl_X5_9 ?_
        refine qq_iload_n dX5_isSound_31 rfl 1 rfl ?_
        refine qq_iald dX5_isSound_32 hS.2.2.2.1 (by first | assumption | exact qm_in8 (by assumption) (by assumption) | exact qm_in8d (by assumption) (by assumption) | decide) ?_
        refine qq_callS (bc := 0) (bs := 0) (mc := 0) (ms := 0) (as := [.int (S.1 i.toNatClampNeg)]) (rest := []) dX5_isSound_33 (mt_X5_isInItsPlace hp (S.1 i.toNatClampNeg) hS.1) rfl kl_X5_215 ks_X5_isInItsPlace ki_X5 kc_X5_isInItsPlace kd_X5_isInItsPlace rfl (by decide) (by decide) (Nat.le_of_ble_eq_true rfl) (fun v hp' hv _ _ => ?_) (fun E hp' zx _ _ => zx.elim)
        obtain ⟨rfl, rfl⟩ := hv
        show qq_Go _ hp 0 0 36 [(0, .ref 80), (1, .int i)] [.int (f_X5_isInItsPlace (S.1 i.toNatClampNeg))] _ _
        refine qq_if_ne (tgt := 41) dX5_isSound_36 (by decide) (fun zc3 => ?_) (fun zc3 => ?_)
        · refine qq_iload_n dX5_isSound_41 rfl 1 rfl ?_
          refine qq_iconst (v := 1) dX5_isSound_42 (by decide) ?_
          refine qq_iadd dX5_isSound_43 ?_
          refine qq_istore_n (loc' := [(0, .ref 80), (1, .int i), (2, .int (i + 1))]) dX5_isSound_44 rfl [1, 2, 0] (Nat.le_of_ble_eq_true rfl) rfl ?_
          have ze : lr_X5_isSound_2 (fu + 1) i S = lr_X5_isSound_45 i (fun Sk => lr_X5_isSound_2 fu (i + 1) Sk) 9 (i + 1) S := by
            rw [lr_X5_isSound_2, if_neg zc1, if_pos zc2, if_neg zc3]
          rw [ze]
          exact lq_X5_isSound_45 i (fun  Sk => lr_X5_isSound_2 fu (i + 1) Sk) (fun  hpk Sk hSk => by
              refine qq_iinc (v := i + 1) (loc' := [(0, .ref 80), (1, .int (i + 1))]) dX5_isSound_68 1 rfl rfl [1, 0] (Nat.le_of_ble_eq_true rfl) rfl ?_
              refine qq_goto (tgt := 2) dX5_isSound_71 (by decide) ?_
              exact lq_X5_isSound_2  fu (i + 1) hpk Sk hSk (qm_pos zp (by assumption)) (qm_up (by assumption) zh)) 9 (i + 1) hp S hS (qm_pos (by assumption) (by assumption)) (by assumption) (by assumption) (qm_fu (qm_pos (by assumption) (by assumption)))
        · refine qq_iconst (v := 0) dX5_isSound_39 (by decide) ?_
          have ze : lr_X5_isSound_2 (fu + 1) i S = 0 := by
            rw [lr_X5_isSound_2, if_neg zc1, if_pos zc2, if_pos zc3]
          exact qq_iret dX5_isSound_40 rfl rfl ⟨by rw [ze], rfl⟩
def r_X5_isSound  (S : sX) : Int32 := lr_X5_isSound_2 9 (0 : Int32) S
theorem bz_X5_isSound  (S : sX) : r_X5_isSound S = 0 ∨ r_X5_isSound S = 1 := by
  unfold r_X5_isSound
  exact (bzl_X5_isSound_2  9 (0 : Int32) S)
set_option maxRecDepth 4000 in
theorem mt_X5_isSound (hp : qq_H) (S : sX) (hS : cs_X S hp)   : qq_Mt mX5_isSound [.ref 80] hp 0 0 (fun v hp' => v = some (.int (r_X5_isSound S)) ∧ hp = hp') (fun _ _ => False) := by
  refine qq_met pn_X5 (Nat.le_of_ble_eq_true rfl) (Nat.le_of_ble_eq_true rfl) kc_X5_isSound ?_
  show qq_Go _ hp 0 0 0 [(0, .ref 80)] [] _ _
  refine qq_iconst (v := 0) dX5_isSound_0 (by decide) ?_
  refine qq_istore_n (loc' := [(0, .ref 80), (1, .int 0)]) dX5_isSound_1 rfl [1, 0] (Nat.le_of_ble_eq_true rfl) rfl ?_
  have ze : r_X5_isSound S = lr_X5_isSound_2 9 (0 : Int32) S := by
    rw [r_X5_isSound]
  rw [ze]
  exact lq_X5_isSound_2  9 (0 : Int32) hp S hS (by decide) (by decide)
def r_X5_house (what : Int32) (S : sX) : Int32 := if what = 0 then S.2.2.2.1 else if what = 1 then S.2.2.2.2.1 else if what = 2 then S.2.2.2.2.2 else if what = 3 then r_X5_cellsWithQuarters S else r_X5_nearPairs S
set_option maxRecDepth 4000 in
theorem mt_X5_house (hp : qq_H) (S : sX) (hS : cs_X S hp) (what : Int32)  : qq_Mt mX5_house [.ref 80, .int what] hp 1 6 (fun v hp' => v = some (.int (r_X5_house what S)) ∧ hp = hp' ∧ (¬ what < 0 ∧ ¬ 4 < what)) (fun E hp' => hp = hp' ∧ ((E = "java/lang/IllegalArgumentException" ∧ (what < 0 ∨ 4 < what)))) := by
  refine qq_met pn_X5 (Nat.le_of_ble_eq_true rfl) (Nat.le_of_ble_eq_true rfl) kc_X5_house ?_
  show qq_Go _ hp 1 6 0 [(0, .ref 80), (1, .int what)] [] _ _
  refine qq_iload_n dX5_house_0 rfl 1 rfl ?_
  refine qq_iconst (v := 0) dX5_house_1 (by decide) ?_
  refine qq_iconst (v := 4) dX5_house_2 (by decide) ?_
  refine qq_callS (bc := 0) (bs := 0) (mc := 1) (ms := 6) (as := [.int what, .int 0, .int 4]) (rest := []) dX5_house_3 (mt_X5_checkRange hp what (0 : Int32) (4 : Int32) ) rfl kl_X5_36 ks_X5_checkRange ki_X5 kc_X5_checkRange kd_X5_checkRange rfl (by decide) (by decide) (Nat.le_of_ble_eq_true rfl) (fun v hp' hv _ _ => ?_) (fun E hp' zx _ _ => by obtain ⟨rfl, rfl, zf⟩ := zx; exact qq_thr rfl ⟨rfl, ⟨rfl, zf⟩⟩)
  obtain ⟨rfl, rfl, zg1⟩ := hv
  have zg11 := zg1.1
  have zg12 := zg1.2
  show qq_Go _ hp 0 0 6 [(0, .ref 80), (1, .int what)] [] _ _
  refine qq_iload_n dX5_house_6 rfl 1 rfl ?_
  by_cases zc1 : what = 0
  · refine qq_tabIn (off := 29) (tgt := 36) dX5_house_7 (by rw [zc1]; decide) (by rw [zc1]; decide) (by rw [zc1]; decide) (by decide) ?_
    refine qq_aload_n dX5_house_36 rfl 0 rfl ?_
    refine cx_get hS dX5_house_37 3 (by decide) rfl kl_X5_199 ?_
    have ze : r_X5_house what S = S.2.2.2.1 := by
      rw [r_X5_house, if_pos zc1]
    exact qq_iret dX5_house_40 rfl rfl ⟨by rw [ze], rfl, zg1⟩
  · by_cases zc2 : what = 1
    · refine qq_tabIn (off := 34) (tgt := 41) dX5_house_7 (by rw [zc2]; decide) (by rw [zc2]; decide) (by rw [zc2]; decide) (by decide) ?_
      refine qq_aload_n dX5_house_41 rfl 0 rfl ?_
      refine cx_get hS dX5_house_42 4 (by decide) rfl kl_X5_203 ?_
      have ze : r_X5_house what S = S.2.2.2.2.1 := by
        rw [r_X5_house, if_neg zc1, if_pos zc2]
      exact qq_iret dX5_house_45 rfl rfl ⟨by rw [ze], rfl, zg1⟩
    · by_cases zc3 : what = 2
      · refine qq_tabIn (off := 39) (tgt := 46) dX5_house_7 (by rw [zc3]; decide) (by rw [zc3]; decide) (by rw [zc3]; decide) (by decide) ?_
        refine qq_aload_n dX5_house_46 rfl 0 rfl ?_
        refine cx_get hS dX5_house_47 5 (by decide) rfl kl_X5_206 ?_
        have ze : r_X5_house what S = S.2.2.2.2.2 := by
          rw [r_X5_house, if_neg zc1, if_neg zc2, if_pos zc3]
        exact qq_iret dX5_house_50 rfl rfl ⟨by rw [ze], rfl, zg1⟩
      · by_cases zc4 : what = 3
        · refine qq_tabIn (off := 44) (tgt := 51) dX5_house_7 (by rw [zc4]; decide) (by rw [zc4]; decide) (by rw [zc4]; decide) (by decide) ?_
          refine qq_aload_n dX5_house_51 rfl 0 rfl ?_
          refine qq_callV (bc := 0) (bs := 0) (mc := 0) (ms := 0) (o := 80) (ci := 2) (N := 6) (T := TX5) (as := []) (rest := []) dX5_house_52 hS.2.2.1 (by decide) rfl (mt_X5_cellsWithQuarters hp S hS ) rfl kl_X5_209 kn_X5_cellsWithQuarters ke_X5_cellsWithQuarters ki_X5 kc_X5_cellsWithQuarters kd_X5_cellsWithQuarters rfl (by decide) (by decide) (Nat.le_of_ble_eq_true rfl) (fun v hp' hv _ _ => ?_) (fun E hp' zx _ _ => zx.elim)
          obtain ⟨rfl, rfl⟩ := hv
          show qq_Go _ hp 0 0 55 [(0, .ref 80), (1, .int what)] [.int (r_X5_cellsWithQuarters S)] _ _
          have ze : r_X5_house what S = r_X5_cellsWithQuarters S := by
            rw [r_X5_house, if_neg zc1, if_neg zc2, if_neg zc3, if_pos zc4]
          exact qq_iret dX5_house_55 rfl rfl ⟨by rw [ze], rfl, zg1⟩
        · refine qq_tabOut (tgt := 56) dX5_house_7 (by have g0 : ¬ what.toInt = 0 := qm_toInt_ne zc1; have g1 : ¬ what.toInt = 1 := qm_toInt_ne zc2; have g2 : ¬ what.toInt = 2 := qm_toInt_ne zc3; have g3 : ¬ what.toInt = 3 := qm_toInt_ne zc4; omega) (by decide) ?_
          refine qq_aload_n dX5_house_56 rfl 0 rfl ?_
          refine qq_callV (bc := 0) (bs := 0) (mc := 0) (ms := 0) (o := 80) (ci := 2) (N := 6) (T := TX5) (as := []) (rest := []) dX5_house_57 hS.2.2.1 (by decide) rfl (mt_X5_nearPairs hp S hS ) rfl kl_X5_212 kn_X5_nearPairs ke_X5_nearPairs ki_X5 kc_X5_nearPairs kd_X5_nearPairs rfl (by decide) (by decide) (Nat.le_of_ble_eq_true rfl) (fun v hp' hv _ _ => ?_) (fun E hp' zx _ _ => zx.elim)
          obtain ⟨rfl, rfl⟩ := hv
          show qq_Go _ hp 0 0 60 [(0, .ref 80), (1, .int what)] [.int (r_X5_nearPairs S)] _ _
          have ze : r_X5_house what S = r_X5_nearPairs S := by
            rw [r_X5_house, if_neg zc1, if_neg zc2, if_neg zc3, if_neg zc4]
          exact qq_iret dX5_house_60 rfl rfl ⟨by rw [ze], rfl, zg1⟩
def r_X5_whole (cell : Int32) (k : Int32) (S : sX) : Int32 := r_X5_checkedInt (f_X1_roundedDown (S.2.1 cell.toNatClampNeg) k)
set_option maxRecDepth 4000 in
theorem mt_X5_whole (hp : qq_H) (S : sX) (hS : cs_X S hp) (cell : Int32) (k : Int32)  : qq_Mt mX5_whole [.ref 80, .int cell, .int k] hp 4 24 (fun v hp' => v = some (.int (r_X5_whole cell k S)) ∧ hp = hp' ∧ (¬ cell < 0 ∧ ¬ 8 ≤ cell) ∧ (¬ k < -62 ∧ ¬ 90 < k) ∧ (¬ f_X2_hasWhole (S.1 cell.toNatClampNeg) = 0) ∧ (¬ (f_X1_roundedDown (S.2.1 cell.toNatClampNeg) k) < -2147483648 ∧ ¬ 2147483647 < (f_X1_roundedDown (S.2.1 cell.toNatClampNeg) k))) (fun E hp' => hp = hp' ∧ ((E = "java/lang/IndexOutOfBoundsException" ∧ (cell < 0 ∨ 8 ≤ cell)) ∨ (E = "java/lang/IllegalArgumentException" ∧ (¬ cell < 0 ∧ ¬ 8 ≤ cell) ∧ (k < -62 ∨ 90 < k)) ∨ (E = "java/lang/IllegalStateException" ∧ (¬ cell < 0 ∧ ¬ 8 ≤ cell) ∧ (¬ k < -62 ∧ ¬ 90 < k) ∧ (f_X2_hasWhole (S.1 cell.toNatClampNeg) = 0)) ∨ (E = "java/lang/IllegalStateException" ∧ (¬ cell < 0 ∧ ¬ 8 ≤ cell) ∧ (¬ k < -62 ∧ ¬ 90 < k) ∧ (¬ f_X2_hasWhole (S.1 cell.toNatClampNeg) = 0) ∧ ((f_X1_roundedDown (S.2.1 cell.toNatClampNeg) k) < -2147483648 ∨ 2147483647 < (f_X1_roundedDown (S.2.1 cell.toNatClampNeg) k))))) := by
  refine qq_met pn_X5 (Nat.le_of_ble_eq_true rfl) (Nat.le_of_ble_eq_true rfl) kc_X5_whole ?_
  show qq_Go _ hp 4 24 0 [(0, .ref 80), (1, .int cell), (2, .int k)] [] _ _
  refine qq_iload_n dX5_whole_0 rfl 1 rfl ?_
  refine qq_callS (bc := 3) (bs := 18) (mc := 1) (ms := 6) (as := [.int cell]) (rest := []) dX5_whole_1 (mt_X5_checkCell hp cell ) rfl kl_X5_32 ks_X5_checkCell ki_X5 kc_X5_checkCell kd_X5_checkCell rfl (by decide) (by decide) (Nat.le_of_ble_eq_true rfl) (fun v hp' hv _ _ => ?_) (fun E hp' zx _ _ => by obtain ⟨rfl, rfl, zf⟩ := zx; exact qq_thr rfl ⟨rfl, (Or.inl ⟨rfl, zf⟩)⟩)
  obtain ⟨rfl, rfl, zg1⟩ := hv
  have zg11 := zg1.1
  have zg12 := zg1.2
  show qq_Go _ hp 3 18 4 [(0, .ref 80), (1, .int cell), (2, .int k)] [] _ _
  refine qq_iload_n dX5_whole_4 rfl 2 rfl ?_
  refine qq_bipush (v := (-62)) dX5_whole_5 (by decide) ?_
  refine qq_bipush (v := 90) dX5_whole_7 (by decide) ?_
  refine qq_callS (bc := 2) (bs := 12) (mc := 1) (ms := 6) (as := [.int k, .int (-62), .int 90]) (rest := []) dX5_whole_9 (mt_X5_checkRange hp k (-62 : Int32) (90 : Int32) ) rfl kl_X5_36 ks_X5_checkRange ki_X5 kc_X5_checkRange kd_X5_checkRange rfl (by decide) (by decide) (Nat.le_of_ble_eq_true rfl) (fun v hp' hv _ _ => ?_) (fun E hp' zx _ _ => by obtain ⟨rfl, rfl, zf⟩ := zx; exact qq_thr rfl ⟨rfl, (Or.inr (Or.inl ⟨rfl, zg1, zf⟩))⟩)
  obtain ⟨rfl, rfl, zg2⟩ := hv
  have zg21 := zg2.1
  have zg22 := zg2.2
  show qq_Go _ hp 2 12 12 [(0, .ref 80), (1, .int cell), (2, .int k)] [] _ _
  refine qq_aload_n dX5_whole_12 rfl 0 rfl ?_
  refine cx_get hS dX5_whole_13 0 (by decide) rfl kl_X5_9 ?_
  refine qq_iload_n dX5_whole_16 rfl 1 rfl ?_
  refine qq_iald dX5_whole_17 hS.2.2.2.1 (by first | assumption | exact qm_in8 (by assumption) (by assumption) | exact qm_in8d (by assumption) (by assumption) | decide) ?_
  refine qq_callS (bc := 2) (bs := 12) (mc := 0) (ms := 0) (as := [.int (S.1 cell.toNatClampNeg)]) (rest := []) dX5_whole_18 (mt_X2_hasWhole hp (S.1 cell.toNatClampNeg)) rfl kl_X5_99 ks_X2_hasWhole ki_X2 kc_X2_hasWhole kd_X2_hasWhole rfl (by decide) (by decide) (Nat.le_of_ble_eq_true rfl) (fun v hp' hv _ _ => ?_) (fun E hp' zx _ _ => zx.elim)
  obtain ⟨rfl, rfl⟩ := hv
  show qq_Go _ hp 2 12 21 [(0, .ref 80), (1, .int cell), (2, .int k)] [.int (f_X2_hasWhole (S.1 cell.toNatClampNeg))] _ _
  refine qq_if_ne (tgt := 34) dX5_whole_21 (by decide) (fun zc1 => ?_) (fun zc1 => ?_)
  · refine qq_aload_n dX5_whole_34 rfl 0 rfl ?_
    refine cx_get hS dX5_whole_35 1 (by decide) rfl kl_X5_13 ?_
    refine qq_iload_n dX5_whole_38 rfl 1 rfl ?_
    refine qq_lald dX5_whole_39 hS.2.2.2.2.1 (by first | assumption | exact qm_in8 (by assumption) (by assumption) | exact qm_in8d (by assumption) (by assumption) | decide) ?_
    refine qq_iload_n dX5_whole_40 rfl 2 rfl ?_
    refine qq_callS (bc := 2) (bs := 12) (mc := 0) (ms := 0) (as := [.long (S.2.1 cell.toNatClampNeg), .int k]) (rest := []) dX5_whole_41 (mt_X1_roundedDown hp (S.2.1 cell.toNatClampNeg) k) rfl kl_X5_109 ks_X1_roundedDown ki_X1 kc_X1_roundedDown kd_X1_roundedDown rfl (by decide) (by decide) (Nat.le_of_ble_eq_true rfl) (fun v hp' hv _ _ => ?_) (fun E hp' zx _ _ => zx.elim)
    obtain ⟨rfl, rfl⟩ := hv
    show qq_Go _ hp 2 12 44 [(0, .ref 80), (1, .int cell), (2, .int k)] [.long (f_X1_roundedDown (S.2.1 cell.toNatClampNeg) k)] _ _
    refine qq_callS (bc := 1) (bs := 6) (mc := 1) (ms := 6) (as := [.long (f_X1_roundedDown (S.2.1 cell.toNatClampNeg) k)]) (rest := []) dX5_whole_44 (mt_X5_checkedInt hp (f_X1_roundedDown (S.2.1 cell.toNatClampNeg) k) ) rfl kl_X5_113 ks_X5_checkedInt ki_X5 kc_X5_checkedInt kd_X5_checkedInt rfl (by decide) (by decide) (Nat.le_of_ble_eq_true rfl) (fun v hp' hv _ _ => ?_) (fun E hp' zx _ _ => by obtain ⟨rfl, rfl, zf⟩ := zx; exact qq_thr rfl ⟨rfl, (Or.inr (Or.inr (Or.inr ⟨rfl, zg1, zg2, zc1, zf⟩)))⟩)
    obtain ⟨rfl, rfl, zg3⟩ := hv
    have zg31 := zg3.1
    have zg32 := zg3.2
    show qq_Go _ hp 1 6 47 [(0, .ref 80), (1, .int cell), (2, .int k)] [.int (r_X5_checkedInt (f_X1_roundedDown (S.2.1 cell.toNatClampNeg) k))] _ _
    have ze : r_X5_whole cell k S = r_X5_checkedInt (f_X1_roundedDown (S.2.1 cell.toNatClampNeg) k) := by
      rw [r_X5_whole]
    exact qq_iret dX5_whole_47 rfl rfl ⟨by rw [ze], rfl, zg1, zg2, zc1, zg3⟩
  · exact qq_throw (bc := 1) (bs := 6) (cls := "java/lang/IllegalStateException") (text := "no WHOLE is told of this KIND") (sa := 14) rfl (by decide +kernel) (by decide +kernel) (by decide) kl_X5_102 ki_java_lang_IllegalStateException (by decide +kernel) th_X5_106_1 th_X5_106_2 th_X5_106_3 dX5_whole_24 dX5_whole_27 dX5_whole_28 dX5_whole_30 dX5_whole_33 (Nat.le_of_ble_eq_true rfl) ⟨rfl, (Or.inr (Or.inr (Or.inl ⟨rfl, zg1, zg2, (by assumption)⟩)))⟩
set_option maxRecDepth 4000 in
theorem mo_X5_checkCell (hp : qq_H) (cell : Int32) (zo0 : ¬ cell < 0 ∧ ¬ 8 ≤ cell) : qq_Mt mX5_checkCell [.int cell] hp 0 0 (fun v hp' => v = none ∧ hp = hp') (fun _ _ => False) := by
  refine qq_met (by decide +kernel) (Nat.le_of_ble_eq_true rfl) (Nat.le_of_ble_eq_true rfl) kc_X5_checkCell ?_
  show qq_Go _ hp 0 0 0 [(0, .int cell)] [] _ _
  have zo0a := zo0.1
  have zo0b := zo0.2
  refine qq_iload_n dX5_checkCell_0 rfl 0 rfl ?_
  refine qq_if_lt (tgt := 10) dX5_checkCell_1 (by decide) (fun zc1 => ?_) (fun zc1 => ?_)
  · exact absurd (show cell < 0 ∨ 8 ≤ cell from (by first | exact Or.inl (by assumption) | exact Or.inr (by assumption) | exact Or.inr (qm_nlt (by assumption)) | exact Or.inr (qm_nle (by assumption)) | exact Or.inr (qm_nleJ (by assumption)) | assumption)) (fun z => z.elim zo0.1 zo0.2)
  · refine qq_iload_n dX5_checkCell_4 rfl 0 rfl ?_
    refine qq_bipush (v := 8) dX5_checkCell_5 (by decide) ?_
    refine qq_icmp_lt (tgt := 21) dX5_checkCell_7 (by decide) (fun zc2 => ?_) (fun zc2 => ?_)
    · exact qq_vret dX5_checkCell_21 rfl ⟨rfl, rfl⟩
    · exact absurd (show cell < 0 ∨ 8 ≤ cell from (by first | exact Or.inl (by assumption) | exact Or.inr (by assumption) | exact Or.inr (qm_nlt (by assumption)) | exact Or.inr (qm_nle (by assumption)) | exact Or.inr (qm_nleJ (by assumption)) | assumption)) (fun z => z.elim zo0.1 zo0.2)
set_option maxRecDepth 4000 in
theorem mo_X5_checkRange (hp : qq_H) (told : Int32) (lo : Int32) (up : Int32) (zo0 : ¬ told < lo ∧ ¬ up < told) : qq_Mt mX5_checkRange [.int told, .int lo, .int up] hp 0 0 (fun v hp' => v = none ∧ hp = hp') (fun _ _ => False) := by
  refine qq_met (by decide +kernel) (Nat.le_of_ble_eq_true rfl) (Nat.le_of_ble_eq_true rfl) kc_X5_checkRange ?_
  show qq_Go _ hp 0 0 0 [(0, .int told), (1, .int lo), (2, .int up)] [] _ _
  have zo0a := zo0.1
  have zo0b := zo0.2
  refine qq_iload_n dX5_checkRange_0 rfl 0 rfl ?_
  refine qq_iload_n dX5_checkRange_1 rfl 1 rfl ?_
  refine qq_icmp_lt (tgt := 10) dX5_checkRange_2 (by decide) (fun zc1 => ?_) (fun zc1 => ?_)
  · exact absurd (show told < lo ∨ up < told from (by first | exact Or.inl (by assumption) | exact Or.inr (by assumption) | exact Or.inr (qm_nlt (by assumption)) | exact Or.inr (qm_nle (by assumption)) | exact Or.inr (qm_nleJ (by assumption)) | assumption)) (fun z => z.elim zo0.1 zo0.2)
  · refine qq_iload_n dX5_checkRange_5 rfl 0 rfl ?_
    refine qq_iload_n dX5_checkRange_6 rfl 2 rfl ?_
    refine qq_icmp_le (tgt := 21) dX5_checkRange_7 (by decide) (fun zc2 => ?_) (fun zc2 => ?_)
    · exact qq_vret dX5_checkRange_21 rfl ⟨rfl, rfl⟩
    · exact absurd (show told < lo ∨ up < told from (by first | exact Or.inl (by assumption) | exact Or.inr (by assumption) | exact Or.inr (qm_nlt (by assumption)) | exact Or.inr (qm_nle (by assumption)) | exact Or.inr (qm_nleJ (by assumption)) | assumption)) (fun z => z.elim zo0.1 zo0.2)
set_option maxRecDepth 4000 in
theorem mo_X5_checkSeries (hp : qq_H) (how : Int32) (zo0 : ¬ how < 0 ∧ ¬ 3 < how) : qq_Mt mX5_checkSeries [.int how] hp 0 0 (fun v hp' => v = none ∧ hp = hp') (fun _ _ => False) := by
  refine qq_met (by decide +kernel) (Nat.le_of_ble_eq_true rfl) (Nat.le_of_ble_eq_true rfl) kc_X5_checkSeries ?_
  show qq_Go _ hp 0 0 0 [(0, .int how)] [] _ _
  have zo0a := zo0.1
  have zo0b := zo0.2
  refine qq_iload_n dX5_checkSeries_0 rfl 0 rfl ?_
  refine qq_iconst (v := 0) dX5_checkSeries_1 (by decide) ?_
  refine qq_iconst (v := 3) dX5_checkSeries_2 (by decide) ?_
  refine qq_callS (bc := 0) (bs := 0) (mc := 0) (ms := 0) (as := [.int how, .int 0, .int 3]) (rest := []) dX5_checkSeries_3 (mo_X5_checkRange hp how (0 : Int32) (3 : Int32) (by first | assumption | exact ⟨by assumption, by assumption⟩ | exact qm_in8 (by assumption) (by assumption) | exact ⟨by assumption, qm_len (by assumption)⟩ | exact qm_in8d (by assumption) (by assumption) | decide)) rfl kl_X5_36 ks_X5_checkRange ki_X5 kc_X5_checkRange kd_X5_checkRange rfl (by decide) (by decide) (Nat.le_of_ble_eq_true rfl) (fun v hp' hv _ _ => ?_) (fun E hp' zx _ _ => zx.elim)
  obtain ⟨rfl, rfl⟩ := hv
  show qq_Go _ hp 0 0 6 [(0, .int how)] [] _ _
  exact qq_vret dX5_checkSeries_6 rfl ⟨rfl, rfl⟩
set_option maxRecDepth 4000 in
theorem mo_X5_checkHeight (hp : qq_H) (S : sX) (hS : cs_X S hp) (cell : Int32) (zi : vp_in cell 8) (zo0 : ¬ f_X2_hasHeight (S.1 cell.toNatClampNeg) = 0) : qq_Mt mX5_checkHeight [.ref 80, .int cell] hp 0 0 (fun v hp' => v = none ∧ hp = hp') (fun _ _ => False) := by
  refine qq_met (by decide +kernel) (Nat.le_of_ble_eq_true rfl) (Nat.le_of_ble_eq_true rfl) kc_X5_checkHeight ?_
  show qq_Go _ hp 0 0 0 [(0, .ref 80), (1, .int cell)] [] _ _
  refine qq_aload_n dX5_checkHeight_0 rfl 0 rfl ?_
  refine cx_get hS dX5_checkHeight_1 0 (by decide) rfl kl_X5_9 ?_
  refine qq_iload_n dX5_checkHeight_4 rfl 1 rfl ?_
  refine qq_iald dX5_checkHeight_5 hS.2.2.2.1 (by first | assumption | exact qm_in8 (by assumption) (by assumption) | exact qm_in8d (by assumption) (by assumption) | decide) ?_
  refine qq_callS (bc := 0) (bs := 0) (mc := 0) (ms := 0) (as := [.int (S.1 cell.toNatClampNeg)]) (rest := []) dX5_checkHeight_6 (mt_X2_hasHeight hp (S.1 cell.toNatClampNeg)) rfl kl_X5_252 ks_X2_hasHeight ki_X2 kc_X2_hasHeight kd_X2_hasHeight rfl (by decide) (by decide) (Nat.le_of_ble_eq_true rfl) (fun v hp' hv _ _ => ?_) (fun E hp' zx _ _ => zx.elim)
  obtain ⟨rfl, rfl⟩ := hv
  show qq_Go _ hp 0 0 9 [(0, .ref 80), (1, .int cell)] [.int (f_X2_hasHeight (S.1 cell.toNatClampNeg))] _ _
  refine qq_if_ne (tgt := 23) dX5_checkHeight_9 (by decide) (fun zc1 => ?_) (fun zc1 => ?_)
  · exact qq_vret dX5_checkHeight_23 rfl ⟨rfl, rfl⟩
  · exact absurd (show f_X2_hasHeight (S.1 cell.toNatClampNeg) = 0 from (by first | exact Or.inl (by assumption) | exact Or.inr (by assumption) | exact Or.inr (qm_nlt (by assumption)) | exact Or.inr (qm_nle (by assumption)) | exact Or.inr (qm_nleJ (by assumption)) | assumption)) zo0
set_option maxRecDepth 4000 in
theorem mo_X5_checkToldDigits (hp : qq_H) (S : sX) (hS : cs_X S hp) (cell : Int32) (zi : vp_in cell 8) (zo0 : ¬ f_X2_hasToldDigits (S.1 cell.toNatClampNeg) = 0) : qq_Mt mX5_checkToldDigits [.ref 80, .int cell] hp 0 0 (fun v hp' => v = none ∧ hp = hp') (fun _ _ => False) := by
  refine qq_met (by decide +kernel) (Nat.le_of_ble_eq_true rfl) (Nat.le_of_ble_eq_true rfl) kc_X5_checkToldDigits ?_
  show qq_Go _ hp 0 0 0 [(0, .ref 80), (1, .int cell)] [] _ _
  refine qq_aload_n dX5_checkToldDigits_0 rfl 0 rfl ?_
  refine cx_get hS dX5_checkToldDigits_1 0 (by decide) rfl kl_X5_9 ?_
  refine qq_iload_n dX5_checkToldDigits_4 rfl 1 rfl ?_
  refine qq_iald dX5_checkToldDigits_5 hS.2.2.2.1 (by first | assumption | exact qm_in8 (by assumption) (by assumption) | exact qm_in8d (by assumption) (by assumption) | decide) ?_
  refine qq_callS (bc := 0) (bs := 0) (mc := 0) (ms := 0) (as := [.int (S.1 cell.toNatClampNeg)]) (rest := []) dX5_checkToldDigits_6 (mt_X2_hasToldDigits hp (S.1 cell.toNatClampNeg)) rfl kl_X5_261 ks_X2_hasToldDigits ki_X2 kc_X2_hasToldDigits kd_X2_hasToldDigits rfl (by decide) (by decide) (Nat.le_of_ble_eq_true rfl) (fun v hp' hv _ _ => ?_) (fun E hp' zx _ _ => zx.elim)
  obtain ⟨rfl, rfl⟩ := hv
  show qq_Go _ hp 0 0 9 [(0, .ref 80), (1, .int cell)] [.int (f_X2_hasToldDigits (S.1 cell.toNatClampNeg))] _ _
  refine qq_if_ne (tgt := 23) dX5_checkToldDigits_9 (by decide) (fun zc1 => ?_) (fun zc1 => ?_)
  · exact qq_vret dX5_checkToldDigits_23 rfl ⟨rfl, rfl⟩
  · exact absurd (show f_X2_hasToldDigits (S.1 cell.toNatClampNeg) = 0 from (by first | exact Or.inl (by assumption) | exact Or.inr (by assumption) | exact Or.inr (qm_nlt (by assumption)) | exact Or.inr (qm_nle (by assumption)) | exact Or.inr (qm_nleJ (by assumption)) | assumption)) zo0
set_option maxRecDepth 4000 in
theorem mo_X5_kind (hp : qq_H) (S : sX) (hS : cs_X S hp) (cell : Int32) (zo0 : ¬ cell < 0 ∧ ¬ 8 ≤ cell) : qq_Mt mX5_kind [.ref 80, .int cell] hp 0 0 (fun v hp' => v = some (.int (r_X5_kind cell S)) ∧ hp = hp') (fun _ _ => False) := by
  refine qq_met (by decide +kernel) (Nat.le_of_ble_eq_true rfl) (Nat.le_of_ble_eq_true rfl) kc_X5_kind ?_
  show qq_Go _ hp 0 0 0 [(0, .ref 80), (1, .int cell)] [] _ _
  have zo0a := zo0.1
  have zo0b := zo0.2
  refine qq_iload_n dX5_kind_0 rfl 1 rfl ?_
  refine qq_callS (bc := 0) (bs := 0) (mc := 0) (ms := 0) (as := [.int cell]) (rest := []) dX5_kind_1 (mo_X5_checkCell hp cell (by first | assumption | exact ⟨by assumption, by assumption⟩ | exact qm_in8 (by assumption) (by assumption) | exact ⟨by assumption, qm_len (by assumption)⟩ | exact qm_in8d (by assumption) (by assumption) | decide)) rfl kl_X5_32 ks_X5_checkCell ki_X5 kc_X5_checkCell kd_X5_checkCell rfl (by decide) (by decide) (Nat.le_of_ble_eq_true rfl) (fun v hp' hv _ _ => ?_) (fun E hp' zx _ _ => zx.elim)
  obtain ⟨rfl, rfl⟩ := hv
  show qq_Go _ hp 0 0 4 [(0, .ref 80), (1, .int cell)] [] _ _
  refine qq_aload_n dX5_kind_4 rfl 0 rfl ?_
  refine cx_get hS dX5_kind_5 0 (by decide) rfl kl_X5_9 ?_
  refine qq_iload_n dX5_kind_8 rfl 1 rfl ?_
  refine qq_iald dX5_kind_9 hS.2.2.2.1 (by first | assumption | exact qm_in8 (by assumption) (by assumption) | exact qm_in8d (by assumption) (by assumption) | decide) ?_
  refine qq_callS (bc := 0) (bs := 0) (mc := 0) (ms := 0) (as := [.int (S.1 cell.toNatClampNeg)]) (rest := []) dX5_kind_10 (mt_X2_kindOf hp (S.1 cell.toNatClampNeg)) rfl kl_X5_75 ks_X2_kindOf ki_X2 kc_X2_kindOf kd_X2_kindOf rfl (by decide) (by decide) (Nat.le_of_ble_eq_true rfl) (fun v hp' hv _ _ => ?_) (fun E hp' zx _ _ => zx.elim)
  obtain ⟨rfl, rfl⟩ := hv
  show qq_Go _ hp 0 0 13 [(0, .ref 80), (1, .int cell)] [.int (f_X2_kindOf (S.1 cell.toNatClampNeg))] _ _
  have ze : r_X5_kind cell S = f_X2_kindOf (S.1 cell.toNatClampNeg) := by
    rw [r_X5_kind]
  exact qq_iret dX5_kind_13 rfl rfl ⟨by rw [ze], rfl⟩
set_option maxRecDepth 4000 in
theorem mo_X5_of (hp : qq_H) (S : sX) (hS : cs_X S hp) (cell : Int32) (zo0 : ¬ cell < 0 ∧ ¬ 8 ≤ cell) : qq_Mt mX5_of [.ref 80, .int cell] hp 0 0 (fun v hp' => v = some (.int (r_X5_of cell S)) ∧ hp = hp') (fun _ _ => False) := by
  refine qq_met (by decide +kernel) (Nat.le_of_ble_eq_true rfl) (Nat.le_of_ble_eq_true rfl) kc_X5_of ?_
  show qq_Go _ hp 0 0 0 [(0, .ref 80), (1, .int cell)] [] _ _
  have zo0a := zo0.1
  have zo0b := zo0.2
  refine qq_iload_n dX5_of_0 rfl 1 rfl ?_
  refine qq_callS (bc := 0) (bs := 0) (mc := 0) (ms := 0) (as := [.int cell]) (rest := []) dX5_of_1 (mo_X5_checkCell hp cell (by first | assumption | exact ⟨by assumption, by assumption⟩ | exact qm_in8 (by assumption) (by assumption) | exact ⟨by assumption, qm_len (by assumption)⟩ | exact qm_in8d (by assumption) (by assumption) | decide)) rfl kl_X5_32 ks_X5_checkCell ki_X5 kc_X5_checkCell kd_X5_checkCell rfl (by decide) (by decide) (Nat.le_of_ble_eq_true rfl) (fun v hp' hv _ _ => ?_) (fun E hp' zx _ _ => zx.elim)
  obtain ⟨rfl, rfl⟩ := hv
  show qq_Go _ hp 0 0 4 [(0, .ref 80), (1, .int cell)] [] _ _
  refine qq_aload_n dX5_of_4 rfl 0 rfl ?_
  refine cx_get hS dX5_of_5 0 (by decide) rfl kl_X5_9 ?_
  refine qq_iload_n dX5_of_8 rfl 1 rfl ?_
  refine qq_iald dX5_of_9 hS.2.2.2.1 (by first | assumption | exact qm_in8 (by assumption) (by assumption) | exact qm_in8d (by assumption) (by assumption) | decide) ?_
  refine qq_callS (bc := 0) (bs := 0) (mc := 0) (ms := 0) (as := [.int (S.1 cell.toNatClampNeg)]) (rest := []) dX5_of_10 (mt_X2_qOf hp (S.1 cell.toNatClampNeg)) rfl kl_X5_72 ks_X2_qOf ki_X2 kc_X2_qOf kd_X2_qOf rfl (by decide) (by decide) (Nat.le_of_ble_eq_true rfl) (fun v hp' hv _ _ => ?_) (fun E hp' zx _ _ => zx.elim)
  obtain ⟨rfl, rfl⟩ := hv
  show qq_Go _ hp 0 0 13 [(0, .ref 80), (1, .int cell)] [.int (f_X2_qOf (S.1 cell.toNatClampNeg))] _ _
  have ze : r_X5_of cell S = f_X2_qOf (S.1 cell.toNatClampNeg) := by
    rw [r_X5_of]
  exact qq_iret dX5_of_13 rfl rfl ⟨by rw [ze], rfl⟩
set_option maxRecDepth 4000 in
theorem mo_X5_isBelow (hp : qq_H) (S : sX) (hS : cs_X S hp) (cell : Int32) (zo0 : ¬ cell < 0 ∧ ¬ 8 ≤ cell) : qq_Mt mX5_isBelow [.ref 80, .int cell] hp 0 0 (fun v hp' => v = some (.int (r_X5_isBelow cell S)) ∧ hp = hp') (fun _ _ => False) := by
  refine qq_met (by decide +kernel) (Nat.le_of_ble_eq_true rfl) (Nat.le_of_ble_eq_true rfl) kc_X5_isBelow ?_
  show qq_Go _ hp 0 0 0 [(0, .ref 80), (1, .int cell)] [] _ _
  have zo0a := zo0.1
  have zo0b := zo0.2
  refine qq_iload_n dX5_isBelow_0 rfl 1 rfl ?_
  refine qq_callS (bc := 0) (bs := 0) (mc := 0) (ms := 0) (as := [.int cell]) (rest := []) dX5_isBelow_1 (mo_X5_checkCell hp cell (by first | assumption | exact ⟨by assumption, by assumption⟩ | exact qm_in8 (by assumption) (by assumption) | exact ⟨by assumption, qm_len (by assumption)⟩ | exact qm_in8d (by assumption) (by assumption) | decide)) rfl kl_X5_32 ks_X5_checkCell ki_X5 kc_X5_checkCell kd_X5_checkCell rfl (by decide) (by decide) (Nat.le_of_ble_eq_true rfl) (fun v hp' hv _ _ => ?_) (fun E hp' zx _ _ => zx.elim)
  obtain ⟨rfl, rfl⟩ := hv
  show qq_Go _ hp 0 0 4 [(0, .ref 80), (1, .int cell)] [] _ _
  refine qq_aload_n dX5_isBelow_4 rfl 0 rfl ?_
  refine cx_get hS dX5_isBelow_5 0 (by decide) rfl kl_X5_9 ?_
  refine qq_iload_n dX5_isBelow_8 rfl 1 rfl ?_
  refine qq_iald dX5_isBelow_9 hS.2.2.2.1 (by first | assumption | exact qm_in8 (by assumption) (by assumption) | exact qm_in8d (by assumption) (by assumption) | decide) ?_
  refine qq_callS (bc := 0) (bs := 0) (mc := 0) (ms := 0) (as := [.int (S.1 cell.toNatClampNeg)]) (rest := []) dX5_isBelow_10 (mt_X2_isUnder hp (S.1 cell.toNatClampNeg)) rfl kl_X5_93 ks_X2_isUnder ki_X2 kc_X2_isUnder kd_X2_isUnder rfl (by decide) (by decide) (Nat.le_of_ble_eq_true rfl) (fun v hp' hv _ _ => ?_) (fun E hp' zx _ _ => zx.elim)
  obtain ⟨rfl, rfl⟩ := hv
  show qq_Go _ hp 0 0 13 [(0, .ref 80), (1, .int cell)] [.int (f_X2_isUnder (S.1 cell.toNatClampNeg))] _ _
  have ze : r_X5_isBelow cell S = f_X2_isUnder (S.1 cell.toNatClampNeg) := by
    rw [r_X5_isBelow]
  exact qq_iret dX5_isBelow_13 rfl (qq_nz (bz_X2_isUnder (S.1 cell.toNatClampNeg))) ⟨by rw [ze], rfl⟩
set_option maxRecDepth 4000 in
theorem mo_X5_height (hp : qq_H) (S : sX) (hS : cs_X S hp) (cell : Int32) (zo0 : ¬ cell < 0 ∧ ¬ 8 ≤ cell) (zo1 : ¬ f_X2_hasHeight (S.1 cell.toNatClampNeg) = 0) : qq_Mt mX5_height [.ref 80, .int cell] hp 0 0 (fun v hp' => v = some (.int (r_X5_height cell S)) ∧ hp = hp') (fun _ _ => False) := by
  refine qq_met (by decide +kernel) (Nat.le_of_ble_eq_true rfl) (Nat.le_of_ble_eq_true rfl) kc_X5_height ?_
  show qq_Go _ hp 0 0 0 [(0, .ref 80), (1, .int cell)] [] _ _
  have zo0a := zo0.1
  have zo0b := zo0.2
  refine qq_iload_n dX5_height_0 rfl 1 rfl ?_
  refine qq_callS (bc := 0) (bs := 0) (mc := 0) (ms := 0) (as := [.int cell]) (rest := []) dX5_height_1 (mo_X5_checkCell hp cell (by first | assumption | exact ⟨by assumption, by assumption⟩ | exact qm_in8 (by assumption) (by assumption) | exact ⟨by assumption, qm_len (by assumption)⟩ | exact qm_in8d (by assumption) (by assumption) | decide)) rfl kl_X5_32 ks_X5_checkCell ki_X5 kc_X5_checkCell kd_X5_checkCell rfl (by decide) (by decide) (Nat.le_of_ble_eq_true rfl) (fun v hp' hv _ _ => ?_) (fun E hp' zx _ _ => zx.elim)
  obtain ⟨rfl, rfl⟩ := hv
  show qq_Go _ hp 0 0 4 [(0, .ref 80), (1, .int cell)] [] _ _
  refine qq_aload_n dX5_height_4 rfl 0 rfl ?_
  refine qq_iload_n dX5_height_5 rfl 1 rfl ?_
  refine qq_callV (bc := 0) (bs := 0) (mc := 0) (ms := 0) (o := 80) (ci := 2) (N := 6) (T := TX5) (as := [.int cell]) (rest := []) dX5_height_6 hS.2.2.1 (by decide) rfl (mo_X5_checkHeight hp S hS cell (by first | assumption | exact ⟨by assumption, by assumption⟩ | exact qm_in8 (by assumption) (by assumption) | exact ⟨by assumption, qm_len (by assumption)⟩ | exact qm_in8d (by assumption) (by assumption) | decide) (by first | assumption | exact ⟨by assumption, by assumption⟩ | exact qm_in8 (by assumption) (by assumption) | exact ⟨by assumption, qm_len (by assumption)⟩ | exact qm_in8d (by assumption) (by assumption) | decide)) rfl kl_X5_117 kn_X5_checkHeight ke_X5_checkHeight ki_X5 kc_X5_checkHeight kd_X5_checkHeight rfl (by decide) (by decide) (Nat.le_of_ble_eq_true rfl) (fun v hp' hv _ _ => ?_) (fun E hp' zx _ _ => zx.elim)
  obtain ⟨rfl, rfl⟩ := hv
  show qq_Go _ hp 0 0 9 [(0, .ref 80), (1, .int cell)] [] _ _
  refine qq_aload_n dX5_height_9 rfl 0 rfl ?_
  refine cx_get hS dX5_height_10 1 (by decide) rfl kl_X5_13 ?_
  refine qq_iload_n dX5_height_13 rfl 1 rfl ?_
  refine qq_lald dX5_height_14 hS.2.2.2.2.1 (by first | assumption | exact qm_in8 (by assumption) (by assumption) | exact qm_in8d (by assumption) (by assumption) | decide) ?_
  refine qq_callS (bc := 0) (bs := 0) (mc := 0) (ms := 0) (as := [.long (S.2.1 cell.toNatClampNeg)]) (rest := []) dX5_height_15 (mt_X1_heightOf hp (S.2.1 cell.toNatClampNeg)) rfl kl_X5_120 ks_X1_heightOf ki_X1 kc_X1_heightOf kd_X1_heightOf rfl (by decide) (by decide) (Nat.le_of_ble_eq_true rfl) (fun v hp' hv _ _ => ?_) (fun E hp' zx _ _ => zx.elim)
  obtain ⟨rfl, rfl⟩ := hv
  show qq_Go _ hp 0 0 18 [(0, .ref 80), (1, .int cell)] [.int (f_X1_heightOf (S.2.1 cell.toNatClampNeg))] _ _
  have ze : r_X5_height cell S = f_X1_heightOf (S.2.1 cell.toNatClampNeg) := by
    rw [r_X5_height]
  exact qq_iret dX5_height_18 rfl rfl ⟨by rw [ze], rfl⟩
set_option maxRecDepth 4000 in
theorem mo_X5_digits (hp : qq_H) (S : sX) (hS : cs_X S hp) (cell : Int32) (zo0 : ¬ cell < 0 ∧ ¬ 8 ≤ cell) (zo1 : ¬ f_X2_hasHeight (S.1 cell.toNatClampNeg) = 0) : qq_Mt mX5_digits [.ref 80, .int cell] hp 0 0 (fun v hp' => v = some (.int (r_X5_digits cell S)) ∧ hp = hp') (fun _ _ => False) := by
  refine qq_met (by decide +kernel) (Nat.le_of_ble_eq_true rfl) (Nat.le_of_ble_eq_true rfl) kc_X5_digits ?_
  show qq_Go _ hp 0 0 0 [(0, .ref 80), (1, .int cell)] [] _ _
  have zo0a := zo0.1
  have zo0b := zo0.2
  refine qq_iload_n dX5_digits_0 rfl 1 rfl ?_
  refine qq_callS (bc := 0) (bs := 0) (mc := 0) (ms := 0) (as := [.int cell]) (rest := []) dX5_digits_1 (mo_X5_checkCell hp cell (by first | assumption | exact ⟨by assumption, by assumption⟩ | exact qm_in8 (by assumption) (by assumption) | exact ⟨by assumption, qm_len (by assumption)⟩ | exact qm_in8d (by assumption) (by assumption) | decide)) rfl kl_X5_32 ks_X5_checkCell ki_X5 kc_X5_checkCell kd_X5_checkCell rfl (by decide) (by decide) (Nat.le_of_ble_eq_true rfl) (fun v hp' hv _ _ => ?_) (fun E hp' zx _ _ => zx.elim)
  obtain ⟨rfl, rfl⟩ := hv
  show qq_Go _ hp 0 0 4 [(0, .ref 80), (1, .int cell)] [] _ _
  refine qq_aload_n dX5_digits_4 rfl 0 rfl ?_
  refine qq_iload_n dX5_digits_5 rfl 1 rfl ?_
  refine qq_callV (bc := 0) (bs := 0) (mc := 0) (ms := 0) (o := 80) (ci := 2) (N := 6) (T := TX5) (as := [.int cell]) (rest := []) dX5_digits_6 hS.2.2.1 (by decide) rfl (mo_X5_checkHeight hp S hS cell (by first | assumption | exact ⟨by assumption, by assumption⟩ | exact qm_in8 (by assumption) (by assumption) | exact ⟨by assumption, qm_len (by assumption)⟩ | exact qm_in8d (by assumption) (by assumption) | decide) (by first | assumption | exact ⟨by assumption, by assumption⟩ | exact qm_in8 (by assumption) (by assumption) | exact ⟨by assumption, qm_len (by assumption)⟩ | exact qm_in8d (by assumption) (by assumption) | decide)) rfl kl_X5_117 kn_X5_checkHeight ke_X5_checkHeight ki_X5 kc_X5_checkHeight kd_X5_checkHeight rfl (by decide) (by decide) (Nat.le_of_ble_eq_true rfl) (fun v hp' hv _ _ => ?_) (fun E hp' zx _ _ => zx.elim)
  obtain ⟨rfl, rfl⟩ := hv
  show qq_Go _ hp 0 0 9 [(0, .ref 80), (1, .int cell)] [] _ _
  refine qq_aload_n dX5_digits_9 rfl 0 rfl ?_
  refine cx_get hS dX5_digits_10 1 (by decide) rfl kl_X5_13 ?_
  refine qq_iload_n dX5_digits_13 rfl 1 rfl ?_
  refine qq_lald dX5_digits_14 hS.2.2.2.2.1 (by first | assumption | exact qm_in8 (by assumption) (by assumption) | exact qm_in8d (by assumption) (by assumption) | decide) ?_
  refine qq_callS (bc := 0) (bs := 0) (mc := 0) (ms := 0) (as := [.long (S.2.1 cell.toNatClampNeg)]) (rest := []) dX5_digits_15 (mt_X1_firstDigits hp (S.2.1 cell.toNatClampNeg)) rfl kl_X5_123 ks_X1_firstDigits ki_X1 kc_X1_firstDigits kd_X1_firstDigits rfl (by decide) (by decide) (Nat.le_of_ble_eq_true rfl) (fun v hp' hv _ _ => ?_) (fun E hp' zx _ _ => zx.elim)
  obtain ⟨rfl, rfl⟩ := hv
  show qq_Go _ hp 0 0 18 [(0, .ref 80), (1, .int cell)] [.int (f_X1_firstDigits (S.2.1 cell.toNatClampNeg))] _ _
  have ze : r_X5_digits cell S = f_X1_firstDigits (S.2.1 cell.toNatClampNeg) := by
    rw [r_X5_digits]
  exact qq_iret dX5_digits_18 rfl rfl ⟨by rw [ze], rfl⟩
set_option maxRecDepth 4000 in
theorem mo_X5_upper (hp : qq_H) (S : sX) (hS : cs_X S hp) (cell : Int32) (zo0 : ¬ cell < 0 ∧ ¬ 8 ≤ cell) (zo1 : ¬ f_X2_hasToldDigits (S.1 cell.toNatClampNeg) = 0) : qq_Mt mX5_upper [.ref 80, .int cell] hp 0 0 (fun v hp' => v = some (.int (r_X5_upper cell S)) ∧ hp = hp') (fun _ _ => False) := by
  refine qq_met (by decide +kernel) (Nat.le_of_ble_eq_true rfl) (Nat.le_of_ble_eq_true rfl) kc_X5_upper ?_
  show qq_Go _ hp 0 0 0 [(0, .ref 80), (1, .int cell)] [] _ _
  have zo0a := zo0.1
  have zo0b := zo0.2
  refine qq_iload_n dX5_upper_0 rfl 1 rfl ?_
  refine qq_callS (bc := 0) (bs := 0) (mc := 0) (ms := 0) (as := [.int cell]) (rest := []) dX5_upper_1 (mo_X5_checkCell hp cell (by first | assumption | exact ⟨by assumption, by assumption⟩ | exact qm_in8 (by assumption) (by assumption) | exact ⟨by assumption, qm_len (by assumption)⟩ | exact qm_in8d (by assumption) (by assumption) | decide)) rfl kl_X5_32 ks_X5_checkCell ki_X5 kc_X5_checkCell kd_X5_checkCell rfl (by decide) (by decide) (Nat.le_of_ble_eq_true rfl) (fun v hp' hv _ _ => ?_) (fun E hp' zx _ _ => zx.elim)
  obtain ⟨rfl, rfl⟩ := hv
  show qq_Go _ hp 0 0 4 [(0, .ref 80), (1, .int cell)] [] _ _
  refine qq_aload_n dX5_upper_4 rfl 0 rfl ?_
  refine qq_iload_n dX5_upper_5 rfl 1 rfl ?_
  refine qq_callV (bc := 0) (bs := 0) (mc := 0) (ms := 0) (o := 80) (ci := 2) (N := 6) (T := TX5) (as := [.int cell]) (rest := []) dX5_upper_6 hS.2.2.1 (by decide) rfl (mo_X5_checkToldDigits hp S hS cell (by first | assumption | exact ⟨by assumption, by assumption⟩ | exact qm_in8 (by assumption) (by assumption) | exact ⟨by assumption, qm_len (by assumption)⟩ | exact qm_in8d (by assumption) (by assumption) | decide) (by first | assumption | exact ⟨by assumption, by assumption⟩ | exact qm_in8 (by assumption) (by assumption) | exact ⟨by assumption, qm_len (by assumption)⟩ | exact qm_in8d (by assumption) (by assumption) | decide)) rfl kl_X5_126 kn_X5_checkToldDigits ke_X5_checkToldDigits ki_X5 kc_X5_checkToldDigits kd_X5_checkToldDigits rfl (by decide) (by decide) (Nat.le_of_ble_eq_true rfl) (fun v hp' hv _ _ => ?_) (fun E hp' zx _ _ => zx.elim)
  obtain ⟨rfl, rfl⟩ := hv
  show qq_Go _ hp 0 0 9 [(0, .ref 80), (1, .int cell)] [] _ _
  refine qq_aload_n dX5_upper_9 rfl 0 rfl ?_
  refine cx_get hS dX5_upper_10 1 (by decide) rfl kl_X5_13 ?_
  refine qq_iload_n dX5_upper_13 rfl 1 rfl ?_
  refine qq_lald dX5_upper_14 hS.2.2.2.2.1 (by first | assumption | exact qm_in8 (by assumption) (by assumption) | exact qm_in8d (by assumption) (by assumption) | decide) ?_
  refine qq_bipush (v := 32) dX5_upper_15 (by decide) ?_
  refine qq_lshr dX5_upper_17 ?_
  refine qq_l2i dX5_upper_18 ?_
  have ze : r_X5_upper cell S = ((S.2.1 cell.toNatClampNeg) >>> ((32 : Int32).toInt64 &&& 63)).toInt32 := by
    rw [r_X5_upper]
  exact qq_iret dX5_upper_19 rfl rfl ⟨by rw [ze], rfl⟩
set_option maxRecDepth 4000 in
theorem mo_X5_lower (hp : qq_H) (S : sX) (hS : cs_X S hp) (cell : Int32) (zo0 : ¬ cell < 0 ∧ ¬ 8 ≤ cell) (zo1 : ¬ f_X2_hasToldDigits (S.1 cell.toNatClampNeg) = 0) : qq_Mt mX5_lower [.ref 80, .int cell] hp 0 0 (fun v hp' => v = some (.int (r_X5_lower cell S)) ∧ hp = hp') (fun _ _ => False) := by
  refine qq_met (by decide +kernel) (Nat.le_of_ble_eq_true rfl) (Nat.le_of_ble_eq_true rfl) kc_X5_lower ?_
  show qq_Go _ hp 0 0 0 [(0, .ref 80), (1, .int cell)] [] _ _
  have zo0a := zo0.1
  have zo0b := zo0.2
  refine qq_iload_n dX5_lower_0 rfl 1 rfl ?_
  refine qq_callS (bc := 0) (bs := 0) (mc := 0) (ms := 0) (as := [.int cell]) (rest := []) dX5_lower_1 (mo_X5_checkCell hp cell (by first | assumption | exact ⟨by assumption, by assumption⟩ | exact qm_in8 (by assumption) (by assumption) | exact ⟨by assumption, qm_len (by assumption)⟩ | exact qm_in8d (by assumption) (by assumption) | decide)) rfl kl_X5_32 ks_X5_checkCell ki_X5 kc_X5_checkCell kd_X5_checkCell rfl (by decide) (by decide) (Nat.le_of_ble_eq_true rfl) (fun v hp' hv _ _ => ?_) (fun E hp' zx _ _ => zx.elim)
  obtain ⟨rfl, rfl⟩ := hv
  show qq_Go _ hp 0 0 4 [(0, .ref 80), (1, .int cell)] [] _ _
  refine qq_aload_n dX5_lower_4 rfl 0 rfl ?_
  refine qq_iload_n dX5_lower_5 rfl 1 rfl ?_
  refine qq_callV (bc := 0) (bs := 0) (mc := 0) (ms := 0) (o := 80) (ci := 2) (N := 6) (T := TX5) (as := [.int cell]) (rest := []) dX5_lower_6 hS.2.2.1 (by decide) rfl (mo_X5_checkToldDigits hp S hS cell (by first | assumption | exact ⟨by assumption, by assumption⟩ | exact qm_in8 (by assumption) (by assumption) | exact ⟨by assumption, qm_len (by assumption)⟩ | exact qm_in8d (by assumption) (by assumption) | decide) (by first | assumption | exact ⟨by assumption, by assumption⟩ | exact qm_in8 (by assumption) (by assumption) | exact ⟨by assumption, qm_len (by assumption)⟩ | exact qm_in8d (by assumption) (by assumption) | decide)) rfl kl_X5_126 kn_X5_checkToldDigits ke_X5_checkToldDigits ki_X5 kc_X5_checkToldDigits kd_X5_checkToldDigits rfl (by decide) (by decide) (Nat.le_of_ble_eq_true rfl) (fun v hp' hv _ _ => ?_) (fun E hp' zx _ _ => zx.elim)
  obtain ⟨rfl, rfl⟩ := hv
  show qq_Go _ hp 0 0 9 [(0, .ref 80), (1, .int cell)] [] _ _
  refine qq_aload_n dX5_lower_9 rfl 0 rfl ?_
  refine cx_get hS dX5_lower_10 1 (by decide) rfl kl_X5_13 ?_
  refine qq_iload_n dX5_lower_13 rfl 1 rfl ?_
  refine qq_lald dX5_lower_14 hS.2.2.2.2.1 (by first | assumption | exact qm_in8 (by assumption) (by assumption) | exact qm_in8d (by assumption) (by assumption) | decide) ?_
  refine qq_l2i dX5_lower_15 ?_
  have ze : r_X5_lower cell S = (S.2.1 cell.toNatClampNeg).toInt32 := by
    rw [r_X5_lower]
  exact qq_iret dX5_lower_16 rfl rfl ⟨by rw [ze], rfl⟩
set_option maxRecDepth 4000 in
theorem mo_X5_order (hp : qq_H) (S : sX) (hS : cs_X S hp) (a : Int32) (b : Int32) (zo0 : ¬ a < 0 ∧ ¬ 8 ≤ a) (zo1 : ¬ b < 0 ∧ ¬ 8 ≤ b) : qq_Mt mX5_order [.ref 80, .int a, .int b] hp 0 0 (fun v hp' => v = some (.int (r_X5_order a b S)) ∧ hp = hp') (fun _ _ => False) := by
  refine qq_met (by decide +kernel) (Nat.le_of_ble_eq_true rfl) (Nat.le_of_ble_eq_true rfl) kc_X5_order ?_
  show qq_Go _ hp 0 0 0 [(0, .ref 80), (1, .int a), (2, .int b)] [] _ _
  have zo0a := zo0.1
  have zo0b := zo0.2
  have zo1a := zo1.1
  have zo1b := zo1.2
  refine qq_iload_n dX5_order_0 rfl 1 rfl ?_
  refine qq_callS (bc := 0) (bs := 0) (mc := 0) (ms := 0) (as := [.int a]) (rest := []) dX5_order_1 (mo_X5_checkCell hp a (by first | assumption | exact ⟨by assumption, by assumption⟩ | exact qm_in8 (by assumption) (by assumption) | exact ⟨by assumption, qm_len (by assumption)⟩ | exact qm_in8d (by assumption) (by assumption) | decide)) rfl kl_X5_32 ks_X5_checkCell ki_X5 kc_X5_checkCell kd_X5_checkCell rfl (by decide) (by decide) (Nat.le_of_ble_eq_true rfl) (fun v hp' hv _ _ => ?_) (fun E hp' zx _ _ => zx.elim)
  obtain ⟨rfl, rfl⟩ := hv
  show qq_Go _ hp 0 0 4 [(0, .ref 80), (1, .int a), (2, .int b)] [] _ _
  refine qq_iload_n dX5_order_4 rfl 2 rfl ?_
  refine qq_callS (bc := 0) (bs := 0) (mc := 0) (ms := 0) (as := [.int b]) (rest := []) dX5_order_5 (mo_X5_checkCell hp b (by first | assumption | exact ⟨by assumption, by assumption⟩ | exact qm_in8 (by assumption) (by assumption) | exact ⟨by assumption, qm_len (by assumption)⟩ | exact qm_in8d (by assumption) (by assumption) | decide)) rfl kl_X5_32 ks_X5_checkCell ki_X5 kc_X5_checkCell kd_X5_checkCell rfl (by decide) (by decide) (Nat.le_of_ble_eq_true rfl) (fun v hp' hv _ _ => ?_) (fun E hp' zx _ _ => zx.elim)
  obtain ⟨rfl, rfl⟩ := hv
  show qq_Go _ hp 0 0 8 [(0, .ref 80), (1, .int a), (2, .int b)] [] _ _
  refine qq_aload_n dX5_order_8 rfl 0 rfl ?_
  refine cx_get hS dX5_order_9 0 (by decide) rfl kl_X5_9 ?_
  refine qq_iload_n dX5_order_12 rfl 1 rfl ?_
  refine qq_iald dX5_order_13 hS.2.2.2.1 (by first | assumption | exact qm_in8 (by assumption) (by assumption) | exact qm_in8d (by assumption) (by assumption) | decide) ?_
  refine qq_aload_n dX5_order_14 rfl 0 rfl ?_
  refine cx_get hS dX5_order_15 0 (by decide) rfl kl_X5_9 ?_
  refine qq_iload_n dX5_order_18 rfl 2 rfl ?_
  refine qq_iald dX5_order_19 hS.2.2.2.1 (by first | assumption | exact qm_in8 (by assumption) (by assumption) | exact qm_in8d (by assumption) (by assumption) | decide) ?_
  refine qq_callS (bc := 0) (bs := 0) (mc := 0) (ms := 0) (as := [.int (S.1 a.toNatClampNeg), .int (S.1 b.toNatClampNeg)]) (rest := []) dX5_order_20 (mt_X2_areNear hp (S.1 a.toNatClampNeg) (S.1 b.toNatClampNeg)) rfl kl_X5_133 ks_X2_areNear ki_X2 kc_X2_areNear kd_X2_areNear rfl (by decide) (by decide) (Nat.le_of_ble_eq_true rfl) (fun v hp' hv _ _ => ?_) (fun E hp' zx _ _ => zx.elim)
  obtain ⟨rfl, rfl⟩ := hv
  show qq_Go _ hp 0 0 23 [(0, .ref 80), (1, .int a), (2, .int b)] [.int (f_X2_areNear (S.1 a.toNatClampNeg) (S.1 b.toNatClampNeg))] _ _
  refine qq_if_eq (tgt := 30) dX5_order_23 (by decide) (fun zc1 => ?_) (fun zc1 => ?_)
  · refine qq_aload_n dX5_order_30 rfl 0 rfl ?_
    refine qq_iload_n dX5_order_31 rfl 1 rfl ?_
    refine qq_iload_n dX5_order_32 rfl 2 rfl ?_
    refine qq_callV (bc := 0) (bs := 0) (mc := 0) (ms := 0) (o := 80) (ci := 2) (N := 6) (T := TX5) (as := [.int a, .int b]) (rest := []) dX5_order_33 hS.2.2.1 (by decide) rfl (mt_X5_compareCells hp S hS a b (by first | assumption | exact ⟨by assumption, by assumption⟩ | exact qm_in8 (by assumption) (by assumption) | exact ⟨by assumption, qm_len (by assumption)⟩ | exact qm_in8d (by assumption) (by assumption) | decide) (by first | assumption | exact ⟨by assumption, by assumption⟩ | exact qm_in8 (by assumption) (by assumption) | exact ⟨by assumption, qm_len (by assumption)⟩ | exact qm_in8d (by assumption) (by assumption) | decide)) rfl kl_X5_90 kn_X5_compareCells ke_X5_compareCells ki_X5 kc_X5_compareCells kd_X5_compareCells rfl (by decide) (by decide) (Nat.le_of_ble_eq_true rfl) (fun v hp' hv _ _ => ?_) (fun E hp' zx _ _ => zx.elim)
    obtain ⟨rfl, rfl⟩ := hv
    show qq_Go _ hp 0 0 36 [(0, .ref 80), (1, .int a), (2, .int b)] [.int (r_X5_compareCells a b S)] _ _
    have ze : r_X5_order a b S = r_X5_compareCells a b S := by
      rw [r_X5_order, if_pos zc1]
    exact qq_iret dX5_order_36 rfl rfl ⟨by rw [ze], rfl⟩
  · refine qq_iconst (v := 2) dX5_order_26 (by decide) ?_
    refine qq_goto (tgt := 36) dX5_order_27 (by decide) ?_
    have ze : r_X5_order a b S = 2 := by
      rw [r_X5_order, if_neg zc1]
    exact qq_iret dX5_order_36 rfl rfl ⟨by rw [ze], rfl⟩
set_option maxRecDepth 4000 in
theorem mo_X5_before (hp : qq_H) (S : sX) (hS : cs_X S hp) (how : Int32) (cell : Int32) (zo0 : ¬ cell < 0 ∧ ¬ 8 ≤ cell) (zo1 : ¬ how < 0 ∧ ¬ 3 < how) : qq_Mt mX5_before [.ref 80, .int how, .int cell] hp 0 0 (fun v hp' => v = some (.int (r_X5_before how cell S)) ∧ hp = hp') (fun _ _ => False) := by
  refine qq_met (by decide +kernel) (Nat.le_of_ble_eq_true rfl) (Nat.le_of_ble_eq_true rfl) kc_X5_before ?_
  show qq_Go _ hp 0 0 0 [(0, .ref 80), (1, .int how), (2, .int cell)] [] _ _
  have zo0a := zo0.1
  have zo0b := zo0.2
  have zo1a := zo1.1
  have zo1b := zo1.2
  refine qq_iload_n dX5_before_0 rfl 2 rfl ?_
  refine qq_callS (bc := 0) (bs := 0) (mc := 0) (ms := 0) (as := [.int cell]) (rest := []) dX5_before_1 (mo_X5_checkCell hp cell (by first | assumption | exact ⟨by assumption, by assumption⟩ | exact qm_in8 (by assumption) (by assumption) | exact ⟨by assumption, qm_len (by assumption)⟩ | exact qm_in8d (by assumption) (by assumption) | decide)) rfl kl_X5_32 ks_X5_checkCell ki_X5 kc_X5_checkCell kd_X5_checkCell rfl (by decide) (by decide) (Nat.le_of_ble_eq_true rfl) (fun v hp' hv _ _ => ?_) (fun E hp' zx _ _ => zx.elim)
  obtain ⟨rfl, rfl⟩ := hv
  show qq_Go _ hp 0 0 4 [(0, .ref 80), (1, .int how), (2, .int cell)] [] _ _
  refine qq_iload_n dX5_before_4 rfl 1 rfl ?_
  refine qq_callS (bc := 0) (bs := 0) (mc := 0) (ms := 0) (as := [.int how]) (rest := []) dX5_before_5 (mo_X5_checkSeries hp how (by first | assumption | exact ⟨by assumption, by assumption⟩ | exact qm_in8 (by assumption) (by assumption) | exact ⟨by assumption, qm_len (by assumption)⟩ | exact qm_in8d (by assumption) (by assumption) | decide)) rfl kl_X5_146 ks_X5_checkSeries ki_X5 kc_X5_checkSeries kd_X5_checkSeries rfl (by decide) (by decide) (Nat.le_of_ble_eq_true rfl) (fun v hp' hv _ _ => ?_) (fun E hp' zx _ _ => zx.elim)
  obtain ⟨rfl, rfl⟩ := hv
  show qq_Go _ hp 0 0 8 [(0, .ref 80), (1, .int how), (2, .int cell)] [] _ _
  refine qq_iload_n dX5_before_8 rfl 1 rfl ?_
  refine qq_aload_n dX5_before_9 rfl 0 rfl ?_
  refine cx_get hS dX5_before_10 1 (by decide) rfl kl_X5_13 ?_
  refine qq_iload_n dX5_before_13 rfl 2 rfl ?_
  refine qq_lald dX5_before_14 hS.2.2.2.2.1 (by first | assumption | exact qm_in8 (by assumption) (by assumption) | exact qm_in8d (by assumption) (by assumption) | decide) ?_
  refine qq_callS (bc := 0) (bs := 0) (mc := 0) (ms := 0) (as := [.int how, .long (S.2.1 cell.toNatClampNeg)]) (rest := []) dX5_before_15 (mt_X4_countAhead hp how (S.2.1 cell.toNatClampNeg) hS.1) rfl kl_X5_149 ks_X4_countAhead ki_X4 kc_X4_countAhead kd_X4_countAhead rfl (by decide) (by decide) (Nat.le_of_ble_eq_true rfl) (fun v hp' hv _ _ => ?_) (fun E hp' zx _ _ => zx.elim)
  obtain ⟨rfl, rfl⟩ := hv
  show qq_Go _ hp 0 0 18 [(0, .ref 80), (1, .int how), (2, .int cell)] [.int (f_X4_countAhead how (S.2.1 cell.toNatClampNeg))] _ _
  have ze : r_X5_before how cell S = f_X4_countAhead how (S.2.1 cell.toNatClampNeg) := by
    rw [r_X5_before]
  exact qq_iret dX5_before_18 rfl rfl ⟨by rw [ze], rfl⟩
set_option maxRecDepth 4000 in
theorem mo_X5_find (hp : qq_H) (S : sX) (hS : cs_X S hp) (cell : Int32) (isL : Int32) (zo0 : ¬ cell < 0 ∧ ¬ 8 ≤ cell) : qq_Mt mX5_find [.ref 80, .int cell, .int isL] hp 0 0 (fun v hp' => v = some (.int (r_X5_find cell isL S)) ∧ hp = hp') (fun _ _ => False) := by
  refine qq_met (by decide +kernel) (Nat.le_of_ble_eq_true rfl) (Nat.le_of_ble_eq_true rfl) kc_X5_find ?_
  show qq_Go _ hp 0 0 0 [(0, .ref 80), (1, .int cell), (2, .int isL)] [] _ _
  have zo0a := zo0.1
  have zo0b := zo0.2
  refine qq_iload_n dX5_find_0 rfl 1 rfl ?_
  refine qq_callS (bc := 0) (bs := 0) (mc := 0) (ms := 0) (as := [.int cell]) (rest := []) dX5_find_1 (mo_X5_checkCell hp cell (by first | assumption | exact ⟨by assumption, by assumption⟩ | exact qm_in8 (by assumption) (by assumption) | exact ⟨by assumption, qm_len (by assumption)⟩ | exact qm_in8d (by assumption) (by assumption) | decide)) rfl kl_X5_32 ks_X5_checkCell ki_X5 kc_X5_checkCell kd_X5_checkCell rfl (by decide) (by decide) (Nat.le_of_ble_eq_true rfl) (fun v hp' hv _ _ => ?_) (fun E hp' zx _ _ => zx.elim)
  obtain ⟨rfl, rfl⟩ := hv
  show qq_Go _ hp 0 0 4 [(0, .ref 80), (1, .int cell), (2, .int isL)] [] _ _
  refine qq_iload_n dX5_find_4 rfl 1 rfl ?_
  refine qq_istore_n (loc' := [(0, .ref 80), (1, .int cell), (2, .int isL), (3, .int cell)]) dX5_find_5 rfl [1, 2, 3, 0] (Nat.le_of_ble_eq_true rfl) rfl ?_
  refine qq_iconst (v := 0) dX5_find_6 (by decide) ?_
  refine qq_istore (loc' := [(0, .ref 80), (1, .int cell), (2, .int isL), (3, .int cell), (4, .int 0)]) dX5_find_7 [1, 2, 3, 4, 0] (Nat.le_of_ble_eq_true rfl) rfl ?_
  have ze : r_X5_find cell isL S = lr_X5_find_9 cell isL 9 cell (0 : Int32) S := by
    rw [r_X5_find]
  rw [ze]
  have zk := lq_X5_find_9 cell isL zo0 9 cell (0 : Int32) hp S hS (by decide) (by decide)
  exact qq_post (fun v hq z => ⟨z.1, z.2.1⟩) (fun _ _ z => z.elim) zk
set_option maxRecDepth 4000 in
theorem mo_X5_rank (hp : qq_H) (S : sX) (hS : cs_X S hp) (cell : Int32) (zo0 : ¬ cell < 0 ∧ ¬ 8 ≤ cell) : qq_Mt mX5_rank [.ref 80, .int cell] hp 0 0 (fun v hp' => v = some (.int (r_X5_rank cell S)) ∧ hp = hp') (fun _ _ => False) := by
  refine qq_met (by decide +kernel) (Nat.le_of_ble_eq_true rfl) (Nat.le_of_ble_eq_true rfl) kc_X5_rank ?_
  show qq_Go _ hp 0 0 0 [(0, .ref 80), (1, .int cell)] [] _ _
  have zo0a := zo0.1
  have zo0b := zo0.2
  refine qq_iload_n dX5_rank_0 rfl 1 rfl ?_
  refine qq_callS (bc := 0) (bs := 0) (mc := 0) (ms := 0) (as := [.int cell]) (rest := []) dX5_rank_1 (mo_X5_checkCell hp cell (by first | assumption | exact ⟨by assumption, by assumption⟩ | exact qm_in8 (by assumption) (by assumption) | exact ⟨by assumption, qm_len (by assumption)⟩ | exact qm_in8d (by assumption) (by assumption) | decide)) rfl kl_X5_32 ks_X5_checkCell ki_X5 kc_X5_checkCell kd_X5_checkCell rfl (by decide) (by decide) (Nat.le_of_ble_eq_true rfl) (fun v hp' hv _ _ => ?_) (fun E hp' zx _ _ => zx.elim)
  obtain ⟨rfl, rfl⟩ := hv
  show qq_Go _ hp 0 0 4 [(0, .ref 80), (1, .int cell)] [] _ _
  refine qq_iconst (v := 0) dX5_rank_4 (by decide) ?_
  refine qq_istore_n (loc' := [(0, .ref 80), (1, .int cell), (2, .int 0)]) dX5_rank_5 rfl [1, 2, 0] (Nat.le_of_ble_eq_true rfl) rfl ?_
  refine qq_iconst (v := 0) dX5_rank_6 (by decide) ?_
  refine qq_istore_n (loc' := [(0, .ref 80), (1, .int cell), (2, .int 0), (3, .int 0)]) dX5_rank_7 rfl [1, 2, 3, 0] (Nat.le_of_ble_eq_true rfl) rfl ?_
  have ze : r_X5_rank cell S = lr_X5_rank_8 cell 9 (0 : Int32) (0 : Int32) S := by
    rw [r_X5_rank]
  rw [ze]
  have zk := lq_X5_rank_8 cell zo0 9 (0 : Int32) (0 : Int32) hp S hS (by decide) (by decide)
  exact qq_post (fun v hq z => ⟨z.1, z.2.1⟩) (fun _ _ z => z.elim) zk
set_option maxRecDepth 4000 in
theorem mo_X5_house (hp : qq_H) (S : sX) (hS : cs_X S hp) (what : Int32) (zo0 : ¬ what < 0 ∧ ¬ 4 < what) : qq_Mt mX5_house [.ref 80, .int what] hp 0 0 (fun v hp' => v = some (.int (r_X5_house what S)) ∧ hp = hp') (fun _ _ => False) := by
  refine qq_met (by decide +kernel) (Nat.le_of_ble_eq_true rfl) (Nat.le_of_ble_eq_true rfl) kc_X5_house ?_
  show qq_Go _ hp 0 0 0 [(0, .ref 80), (1, .int what)] [] _ _
  have zo0a := zo0.1
  have zo0b := zo0.2
  refine qq_iload_n dX5_house_0 rfl 1 rfl ?_
  refine qq_iconst (v := 0) dX5_house_1 (by decide) ?_
  refine qq_iconst (v := 4) dX5_house_2 (by decide) ?_
  refine qq_callS (bc := 0) (bs := 0) (mc := 0) (ms := 0) (as := [.int what, .int 0, .int 4]) (rest := []) dX5_house_3 (mo_X5_checkRange hp what (0 : Int32) (4 : Int32) (by first | assumption | exact ⟨by assumption, by assumption⟩ | exact qm_in8 (by assumption) (by assumption) | exact ⟨by assumption, qm_len (by assumption)⟩ | exact qm_in8d (by assumption) (by assumption) | decide)) rfl kl_X5_36 ks_X5_checkRange ki_X5 kc_X5_checkRange kd_X5_checkRange rfl (by decide) (by decide) (Nat.le_of_ble_eq_true rfl) (fun v hp' hv _ _ => ?_) (fun E hp' zx _ _ => zx.elim)
  obtain ⟨rfl, rfl⟩ := hv
  show qq_Go _ hp 0 0 6 [(0, .ref 80), (1, .int what)] [] _ _
  refine qq_iload_n dX5_house_6 rfl 1 rfl ?_
  by_cases zc1 : what = 0
  · refine qq_tabIn (off := 29) (tgt := 36) dX5_house_7 (by rw [zc1]; decide) (by rw [zc1]; decide) (by rw [zc1]; decide) (by decide) ?_
    refine qq_aload_n dX5_house_36 rfl 0 rfl ?_
    refine cx_get hS dX5_house_37 3 (by decide) rfl kl_X5_199 ?_
    have ze : r_X5_house what S = S.2.2.2.1 := by
      rw [r_X5_house, if_pos zc1]
    exact qq_iret dX5_house_40 rfl rfl ⟨by rw [ze], rfl⟩
  · by_cases zc2 : what = 1
    · refine qq_tabIn (off := 34) (tgt := 41) dX5_house_7 (by rw [zc2]; decide) (by rw [zc2]; decide) (by rw [zc2]; decide) (by decide) ?_
      refine qq_aload_n dX5_house_41 rfl 0 rfl ?_
      refine cx_get hS dX5_house_42 4 (by decide) rfl kl_X5_203 ?_
      have ze : r_X5_house what S = S.2.2.2.2.1 := by
        rw [r_X5_house, if_neg zc1, if_pos zc2]
      exact qq_iret dX5_house_45 rfl rfl ⟨by rw [ze], rfl⟩
    · by_cases zc3 : what = 2
      · refine qq_tabIn (off := 39) (tgt := 46) dX5_house_7 (by rw [zc3]; decide) (by rw [zc3]; decide) (by rw [zc3]; decide) (by decide) ?_
        refine qq_aload_n dX5_house_46 rfl 0 rfl ?_
        refine cx_get hS dX5_house_47 5 (by decide) rfl kl_X5_206 ?_
        have ze : r_X5_house what S = S.2.2.2.2.2 := by
          rw [r_X5_house, if_neg zc1, if_neg zc2, if_pos zc3]
        exact qq_iret dX5_house_50 rfl rfl ⟨by rw [ze], rfl⟩
      · by_cases zc4 : what = 3
        · refine qq_tabIn (off := 44) (tgt := 51) dX5_house_7 (by rw [zc4]; decide) (by rw [zc4]; decide) (by rw [zc4]; decide) (by decide) ?_
          refine qq_aload_n dX5_house_51 rfl 0 rfl ?_
          refine qq_callV (bc := 0) (bs := 0) (mc := 0) (ms := 0) (o := 80) (ci := 2) (N := 6) (T := TX5) (as := []) (rest := []) dX5_house_52 hS.2.2.1 (by decide) rfl (mt_X5_cellsWithQuarters hp S hS ) rfl kl_X5_209 kn_X5_cellsWithQuarters ke_X5_cellsWithQuarters ki_X5 kc_X5_cellsWithQuarters kd_X5_cellsWithQuarters rfl (by decide) (by decide) (Nat.le_of_ble_eq_true rfl) (fun v hp' hv _ _ => ?_) (fun E hp' zx _ _ => zx.elim)
          obtain ⟨rfl, rfl⟩ := hv
          show qq_Go _ hp 0 0 55 [(0, .ref 80), (1, .int what)] [.int (r_X5_cellsWithQuarters S)] _ _
          have ze : r_X5_house what S = r_X5_cellsWithQuarters S := by
            rw [r_X5_house, if_neg zc1, if_neg zc2, if_neg zc3, if_pos zc4]
          exact qq_iret dX5_house_55 rfl rfl ⟨by rw [ze], rfl⟩
        · refine qq_tabOut (tgt := 56) dX5_house_7 (by have g0 : ¬ what.toInt = 0 := qm_toInt_ne zc1; have g1 : ¬ what.toInt = 1 := qm_toInt_ne zc2; have g2 : ¬ what.toInt = 2 := qm_toInt_ne zc3; have g3 : ¬ what.toInt = 3 := qm_toInt_ne zc4; omega) (by decide) ?_
          refine qq_aload_n dX5_house_56 rfl 0 rfl ?_
          refine qq_callV (bc := 0) (bs := 0) (mc := 0) (ms := 0) (o := 80) (ci := 2) (N := 6) (T := TX5) (as := []) (rest := []) dX5_house_57 hS.2.2.1 (by decide) rfl (mt_X5_nearPairs hp S hS ) rfl kl_X5_212 kn_X5_nearPairs ke_X5_nearPairs ki_X5 kc_X5_nearPairs kd_X5_nearPairs rfl (by decide) (by decide) (Nat.le_of_ble_eq_true rfl) (fun v hp' hv _ _ => ?_) (fun E hp' zx _ _ => zx.elim)
          obtain ⟨rfl, rfl⟩ := hv
          show qq_Go _ hp 0 0 60 [(0, .ref 80), (1, .int what)] [.int (r_X5_nearPairs S)] _ _
          have ze : r_X5_house what S = r_X5_nearPairs S := by
            rw [r_X5_house, if_neg zc1, if_neg zc2, if_neg zc3, if_neg zc4]
          exact qq_iret dX5_house_60 rfl rfl ⟨by rw [ze], rfl⟩
def lr_X5_digestCell_208 (st9 : Int64) (cell : Int32) : Nat → Int64 → Int32 → sX → Int64
  | 0, _, _, _ => 0
  | fu + 1, d9, how9, S => if 3 < how9 then d9 else lr_X5_digestCell_208 st9 cell fu ((d9 * 31) + ((r_X5_before how9 cell S).toInt64)) (how9 + 1) S
set_option maxRecDepth 4000 in
theorem lq_X5_digestCell_208 (st9 : Int64) (cell : Int32)  (zv0 : ¬ cell < 0 ∧ ¬ 8 ≤ cell) : ∀ (fu : Nat) (d9 : Int64) (how9 : Int32) (hp : qq_H) (S : sX), cs_X S hp → ¬ how9 < 0 → ((3 : Int32).toInt + 1 - how9.toInt).toNat < fu → qq_Go mX5_digestCell hp 0 0 208 [(0, .ref 80), (1, .long st9), (3, .int cell), (4, .long d9), (6, .int how9)] [] (fun v hp' => v = some (.long (lr_X5_digestCell_208 st9 cell fu d9 how9 S)) ∧ hp = hp') (fun _ _ => False)
  | 0, _, _, hp, _, _, _, zz => absurd zz (Nat.not_lt_zero _)
  | fu + 1, d9, how9, hp, S, hS, zw9, zh => by
    have zv0a := zv0.1
    have zv0b := zv0.2
    refine qq_iload dX5_digestCell_208 4 rfl ?_
    refine qq_iconst (v := 3) dX5_digestCell_210 (by decide) ?_
    refine qq_icmp_gt (tgt := 237) dX5_digestCell_211 (by decide) (fun zc1 => ?_) (fun zc1 => ?_)
    · refine qq_lload dX5_digestCell_237 3 rfl ?_
      have ze : lr_X5_digestCell_208 st9 cell (fu + 1) d9 how9 S = d9 := by
        rw [lr_X5_digestCell_208, if_pos zc1]
      exact qq_lret dX5_digestCell_239 rfl ⟨by rw [ze], rfl⟩
    · refine qq_lload dX5_digestCell_214 3 rfl ?_
      refine qq_ldc2 (v := 31) dX5_digestCell_216 kl_X5_230 ?_
      refine qq_lmul dX5_digestCell_219 ?_
      refine qq_aload_n dX5_digestCell_220 rfl 0 rfl ?_
      refine qq_iload dX5_digestCell_221 4 rfl ?_
      refine qq_iload_n dX5_digestCell_223 rfl 2 rfl ?_
      refine qq_callV (bc := 0) (bs := 0) (mc := 0) (ms := 0) (o := 80) (ci := 2) (N := 6) (T := TX5) (as := [.int how9, .int cell]) (rest := [.long (d9 * 31)]) dX5_digestCell_224 hS.2.2.1 (by decide) rfl (mo_X5_before hp S hS how9 cell (by first | assumption | exact ⟨by assumption, by assumption⟩ | exact qm_in8 (by assumption) (by assumption) | exact ⟨by assumption, qm_len (by assumption)⟩ | exact qm_in8d (by assumption) (by assumption) | decide) (by first | assumption | exact ⟨by assumption, by assumption⟩ | exact qm_in8 (by assumption) (by assumption) | exact ⟨by assumption, qm_len (by assumption)⟩ | exact qm_in8d (by assumption) (by assumption) | decide)) rfl kl_X5_277 kn_X5_before ke_X5_before ki_X5 kc_X5_before kd_X5_before rfl (by decide) (by decide) (Nat.le_of_ble_eq_true rfl) (fun v hp' hv _ _ => ?_) (fun E hp' zx _ _ => zx.elim)
      obtain ⟨rfl, rfl⟩ := hv
      show qq_Go _ hp 0 0 227 [(0, .ref 80), (1, .long st9), (3, .int cell), (4, .long d9), (6, .int how9)] [.int (r_X5_before how9 cell S), .long (d9 * 31)] _ _
      refine qq_i2l dX5_digestCell_227 ?_
      refine qq_ladd dX5_digestCell_228 ?_
      refine qq_lstore (loc' := [(0, .ref 80), (1, .long st9), (3, .int cell), (4, .long ((d9 * 31) + ((r_X5_before how9 cell S).toInt64))), (6, .int how9)]) dX5_digestCell_229 [1, 2, 3, 0, 4] (Nat.le_of_ble_eq_true rfl) rfl ?_
      refine qq_iinc (v := how9 + 1) (loc' := [(0, .ref 80), (1, .long st9), (3, .int cell), (4, .long ((d9 * 31) + ((r_X5_before how9 cell S).toInt64))), (6, .int (how9 + 1))]) dX5_digestCell_231 4 rfl rfl [1, 2, 3, 4, 0] (Nat.le_of_ble_eq_true rfl) rfl ?_
      refine qq_goto (tgt := 208) dX5_digestCell_234 (by decide) ?_
      have ze : lr_X5_digestCell_208 st9 cell (fu + 1) d9 how9 S = lr_X5_digestCell_208 st9 cell fu ((d9 * 31) + ((r_X5_before how9 cell S).toInt64)) (how9 + 1) S := by
        rw [lr_X5_digestCell_208, if_neg zc1]
      rw [ze]
      exact lq_X5_digestCell_208 st9 cell zv0 fu ((d9 * 31) + ((r_X5_before how9 cell S).toInt64)) (how9 + 1) hp S hS (qm_posL zw9 (by assumption) (by decide)) (qm_upL (by assumption) (by decide) zh)
def r_X5_digestCell (st9 : Int64) (cell : Int32) (S : sX) : Int64 := if (r_X5_isBelow cell S) = 0 then if (f_X2_hasHeight (S.1 cell.toNatClampNeg)) = 0 then if (f_X2_hasToldDigits (S.1 cell.toNatClampNeg)) = 0 then lr_X5_digestCell_208 st9 cell 5 ((((((((((((((st9 * 31) + ((r_X5_kind cell S).toInt64)) * 31) + ((r_X5_of cell S).toInt64)) * 31) + ((0 : Int32).toInt64)) * 31) * 31) * 31) + ((r_X5_find cell (0 : Int32) S).toInt64)) * 31) + ((r_X5_find cell (1 : Int32) S).toInt64)) * 31) + ((r_X5_rank cell S).toInt64)) (0 : Int32) S else lr_X5_digestCell_208 st9 cell 5 (((((((((((((((((st9 * 31) + ((r_X5_kind cell S).toInt64)) * 31) + ((r_X5_of cell S).toInt64)) * 31) + ((0 : Int32).toInt64)) * 31) * 31) + ((r_X5_upper cell S).toInt64)) * 31) + ((r_X5_lower cell S).toInt64)) * 31) + ((r_X5_find cell (0 : Int32) S).toInt64)) * 31) + ((r_X5_find cell (1 : Int32) S).toInt64)) * 31) + ((r_X5_rank cell S).toInt64)) (0 : Int32) S else if (f_X2_hasToldDigits (S.1 cell.toNatClampNeg)) = 0 then lr_X5_digestCell_208 st9 cell 5 (((((((((((((((((st9 * 31) + ((r_X5_kind cell S).toInt64)) * 31) + ((r_X5_of cell S).toInt64)) * 31) + ((0 : Int32).toInt64)) * 31) + ((r_X5_height cell S).toInt64)) * 31) + ((r_X5_digits cell S).toInt64)) * 31) * 31) + ((r_X5_find cell (0 : Int32) S).toInt64)) * 31) + ((r_X5_find cell (1 : Int32) S).toInt64)) * 31) + ((r_X5_rank cell S).toInt64)) (0 : Int32) S else lr_X5_digestCell_208 st9 cell 5 ((((((((((((((((((((st9 * 31) + ((r_X5_kind cell S).toInt64)) * 31) + ((r_X5_of cell S).toInt64)) * 31) + ((0 : Int32).toInt64)) * 31) + ((r_X5_height cell S).toInt64)) * 31) + ((r_X5_digits cell S).toInt64)) * 31) + ((r_X5_upper cell S).toInt64)) * 31) + ((r_X5_lower cell S).toInt64)) * 31) + ((r_X5_find cell (0 : Int32) S).toInt64)) * 31) + ((r_X5_find cell (1 : Int32) S).toInt64)) * 31) + ((r_X5_rank cell S).toInt64)) (0 : Int32) S else if (f_X2_hasHeight (S.1 cell.toNatClampNeg)) = 0 then if (f_X2_hasToldDigits (S.1 cell.toNatClampNeg)) = 0 then lr_X5_digestCell_208 st9 cell 5 ((((((((((((((st9 * 31) + ((r_X5_kind cell S).toInt64)) * 31) + ((r_X5_of cell S).toInt64)) * 31) + ((1 : Int32).toInt64)) * 31) * 31) * 31) + ((r_X5_find cell (0 : Int32) S).toInt64)) * 31) + ((r_X5_find cell (1 : Int32) S).toInt64)) * 31) + ((r_X5_rank cell S).toInt64)) (0 : Int32) S else lr_X5_digestCell_208 st9 cell 5 (((((((((((((((((st9 * 31) + ((r_X5_kind cell S).toInt64)) * 31) + ((r_X5_of cell S).toInt64)) * 31) + ((1 : Int32).toInt64)) * 31) * 31) + ((r_X5_upper cell S).toInt64)) * 31) + ((r_X5_lower cell S).toInt64)) * 31) + ((r_X5_find cell (0 : Int32) S).toInt64)) * 31) + ((r_X5_find cell (1 : Int32) S).toInt64)) * 31) + ((r_X5_rank cell S).toInt64)) (0 : Int32) S else if (f_X2_hasToldDigits (S.1 cell.toNatClampNeg)) = 0 then lr_X5_digestCell_208 st9 cell 5 (((((((((((((((((st9 * 31) + ((r_X5_kind cell S).toInt64)) * 31) + ((r_X5_of cell S).toInt64)) * 31) + ((1 : Int32).toInt64)) * 31) + ((r_X5_height cell S).toInt64)) * 31) + ((r_X5_digits cell S).toInt64)) * 31) * 31) + ((r_X5_find cell (0 : Int32) S).toInt64)) * 31) + ((r_X5_find cell (1 : Int32) S).toInt64)) * 31) + ((r_X5_rank cell S).toInt64)) (0 : Int32) S else lr_X5_digestCell_208 st9 cell 5 ((((((((((((((((((((st9 * 31) + ((r_X5_kind cell S).toInt64)) * 31) + ((r_X5_of cell S).toInt64)) * 31) + ((1 : Int32).toInt64)) * 31) + ((r_X5_height cell S).toInt64)) * 31) + ((r_X5_digits cell S).toInt64)) * 31) + ((r_X5_upper cell S).toInt64)) * 31) + ((r_X5_lower cell S).toInt64)) * 31) + ((r_X5_find cell (0 : Int32) S).toInt64)) * 31) + ((r_X5_find cell (1 : Int32) S).toInt64)) * 31) + ((r_X5_rank cell S).toInt64)) (0 : Int32) S
set_option maxRecDepth 4000 in
theorem mt_X5_digestCell (hp : qq_H) (S : sX) (hS : cs_X S hp) (st9 : Int64) (cell : Int32) (zv0 : ¬ cell < 0 ∧ ¬ 8 ≤ cell) : qq_Mt mX5_digestCell [.ref 80, .long st9, .int cell] hp 0 0 (fun v hp' => v = some (.long (r_X5_digestCell st9 cell S)) ∧ hp = hp') (fun _ _ => False) := by
  refine qq_met pn_X5 (Nat.le_of_ble_eq_true rfl) (Nat.le_of_ble_eq_true rfl) kc_X5_digestCell ?_
  show qq_Go _ hp 0 0 0 [(0, .ref 80), (1, .long st9), (3, .int cell)] [] _ _
  have zv0a := zv0.1
  have zv0b := zv0.2
  refine qq_lload_n dX5_digestCell_0 rfl 1 rfl ?_
  refine qq_ldc2 (v := 31) dX5_digestCell_1 kl_X5_230 ?_
  refine qq_lmul dX5_digestCell_4 ?_
  refine qq_aload_n dX5_digestCell_5 rfl 0 rfl ?_
  refine qq_iload_n dX5_digestCell_6 rfl 2 rfl ?_
  refine qq_callV (bc := 0) (bs := 0) (mc := 0) (ms := 0) (o := 80) (ci := 2) (N := 6) (T := TX5) (as := [.int cell]) (rest := [.long (st9 * 31)]) dX5_digestCell_7 hS.2.2.1 (by decide) rfl (mo_X5_kind hp S hS cell (by first | assumption | exact ⟨by assumption, by assumption⟩ | exact qm_in8 (by assumption) (by assumption) | exact ⟨by assumption, qm_len (by assumption)⟩ | exact qm_in8d (by assumption) (by assumption) | decide)) rfl kl_X5_243 kn_X5_kind ke_X5_kind ki_X5 kc_X5_kind kd_X5_kind rfl (by decide) (by decide) (Nat.le_of_ble_eq_true rfl) (fun v hp' hv _ _ => ?_) (fun E hp' zx _ _ => zx.elim)
  obtain ⟨rfl, rfl⟩ := hv
  show qq_Go _ hp 0 0 10 [(0, .ref 80), (1, .long st9), (3, .int cell)] [.int (r_X5_kind cell S), .long (st9 * 31)] _ _
  refine qq_i2l dX5_digestCell_10 ?_
  refine qq_ladd dX5_digestCell_11 ?_
  refine qq_lstore (loc' := [(0, .ref 80), (1, .long st9), (3, .int cell), (4, .long ((st9 * 31) + ((r_X5_kind cell S).toInt64)))]) dX5_digestCell_12 [1, 2, 3, 0] (Nat.le_of_ble_eq_true rfl) rfl ?_
  refine qq_lload dX5_digestCell_14 3 rfl ?_
  refine qq_ldc2 (v := 31) dX5_digestCell_16 kl_X5_230 ?_
  refine qq_lmul dX5_digestCell_19 ?_
  refine qq_aload_n dX5_digestCell_20 rfl 0 rfl ?_
  refine qq_iload_n dX5_digestCell_21 rfl 2 rfl ?_
  refine qq_callV (bc := 0) (bs := 0) (mc := 0) (ms := 0) (o := 80) (ci := 2) (N := 6) (T := TX5) (as := [.int cell]) (rest := [.long (((st9 * 31) + ((r_X5_kind cell S).toInt64)) * 31)]) dX5_digestCell_22 hS.2.2.1 (by decide) rfl (mo_X5_of hp S hS cell (by first | assumption | exact ⟨by assumption, by assumption⟩ | exact qm_in8 (by assumption) (by assumption) | exact ⟨by assumption, qm_len (by assumption)⟩ | exact qm_in8d (by assumption) (by assumption) | decide)) rfl kl_X5_246 kn_X5_of ke_X5_of ki_X5 kc_X5_of kd_X5_of rfl (by decide) (by decide) (Nat.le_of_ble_eq_true rfl) (fun v hp' hv _ _ => ?_) (fun E hp' zx _ _ => zx.elim)
  obtain ⟨rfl, rfl⟩ := hv
  show qq_Go _ hp 0 0 25 [(0, .ref 80), (1, .long st9), (3, .int cell), (4, .long ((st9 * 31) + ((r_X5_kind cell S).toInt64)))] [.int (r_X5_of cell S), .long (((st9 * 31) + ((r_X5_kind cell S).toInt64)) * 31)] _ _
  refine qq_i2l dX5_digestCell_25 ?_
  refine qq_ladd dX5_digestCell_26 ?_
  refine qq_lstore (loc' := [(0, .ref 80), (1, .long st9), (3, .int cell), (4, .long ((((st9 * 31) + ((r_X5_kind cell S).toInt64)) * 31) + ((r_X5_of cell S).toInt64)))]) dX5_digestCell_27 [1, 2, 3, 0] (Nat.le_of_ble_eq_true rfl) rfl ?_
  refine qq_lload dX5_digestCell_29 3 rfl ?_
  refine qq_ldc2 (v := 31) dX5_digestCell_31 kl_X5_230 ?_
  refine qq_lmul dX5_digestCell_34 ?_
  refine qq_aload_n dX5_digestCell_35 rfl 0 rfl ?_
  refine qq_iload_n dX5_digestCell_36 rfl 2 rfl ?_
  refine qq_callV (bc := 0) (bs := 0) (mc := 0) (ms := 0) (o := 80) (ci := 2) (N := 6) (T := TX5) (as := [.int cell]) (rest := [.long (((((st9 * 31) + ((r_X5_kind cell S).toInt64)) * 31) + ((r_X5_of cell S).toInt64)) * 31)]) dX5_digestCell_37 hS.2.2.1 (by decide) rfl (mo_X5_isBelow hp S hS cell (by first | assumption | exact ⟨by assumption, by assumption⟩ | exact qm_in8 (by assumption) (by assumption) | exact ⟨by assumption, qm_len (by assumption)⟩ | exact qm_in8d (by assumption) (by assumption) | decide)) rfl kl_X5_249 kn_X5_isBelow ke_X5_isBelow ki_X5 kc_X5_isBelow kd_X5_isBelow rfl (by decide) (by decide) (Nat.le_of_ble_eq_true rfl) (fun v hp' hv _ _ => ?_) (fun E hp' zx _ _ => zx.elim)
  obtain ⟨rfl, rfl⟩ := hv
  show qq_Go _ hp 0 0 40 [(0, .ref 80), (1, .long st9), (3, .int cell), (4, .long ((((st9 * 31) + ((r_X5_kind cell S).toInt64)) * 31) + ((r_X5_of cell S).toInt64)))] [.int (r_X5_isBelow cell S), .long (((((st9 * 31) + ((r_X5_kind cell S).toInt64)) * 31) + ((r_X5_of cell S).toInt64)) * 31)] _ _
  refine qq_if_eq (tgt := 47) dX5_digestCell_40 (by decide) (fun zc1 => ?_) (fun zc1 => ?_)
  · refine qq_iconst (v := 0) dX5_digestCell_47 (by decide) ?_
    refine qq_i2l dX5_digestCell_48 ?_
    refine qq_ladd dX5_digestCell_49 ?_
    refine qq_lstore (loc' := [(0, .ref 80), (1, .long st9), (3, .int cell), (4, .long ((((((st9 * 31) + ((r_X5_kind cell S).toInt64)) * 31) + ((r_X5_of cell S).toInt64)) * 31) + ((0 : Int32).toInt64)))]) dX5_digestCell_50 [1, 2, 3, 0] (Nat.le_of_ble_eq_true rfl) rfl ?_
    refine qq_aload_n dX5_digestCell_52 rfl 0 rfl ?_
    refine cx_get hS dX5_digestCell_53 0 (by decide) rfl kl_X5_9 ?_
    refine qq_iload_n dX5_digestCell_56 rfl 2 rfl ?_
    refine qq_iald dX5_digestCell_57 hS.2.2.2.1 (by first | assumption | exact qm_in8 (by assumption) (by assumption) | exact qm_in8d (by assumption) (by assumption) | decide) ?_
    refine qq_callS (bc := 0) (bs := 0) (mc := 0) (ms := 0) (as := [.int (S.1 cell.toNatClampNeg)]) (rest := []) dX5_digestCell_58 (mt_X2_hasHeight hp (S.1 cell.toNatClampNeg)) rfl kl_X5_252 ks_X2_hasHeight ki_X2 kc_X2_hasHeight kd_X2_hasHeight rfl (by decide) (by decide) (Nat.le_of_ble_eq_true rfl) (fun v hp' hv _ _ => ?_) (fun E hp' zx _ _ => zx.elim)
    obtain ⟨rfl, rfl⟩ := hv
    show qq_Go _ hp 0 0 61 [(0, .ref 80), (1, .long st9), (3, .int cell), (4, .long ((((((st9 * 31) + ((r_X5_kind cell S).toInt64)) * 31) + ((r_X5_of cell S).toInt64)) * 31) + ((0 : Int32).toInt64)))] [.int (f_X2_hasHeight (S.1 cell.toNatClampNeg))] _ _
    refine qq_if_eq (tgt := 97) dX5_digestCell_61 (by decide) (fun zc2 => ?_) (fun zc2 => ?_)
    · refine qq_lload dX5_digestCell_97 3 rfl ?_
      refine qq_ldc2 (v := 31) dX5_digestCell_99 kl_X5_230 ?_
      refine qq_lmul dX5_digestCell_102 ?_
      refine qq_lstore (loc' := [(0, .ref 80), (1, .long st9), (3, .int cell), (4, .long (((((((st9 * 31) + ((r_X5_kind cell S).toInt64)) * 31) + ((r_X5_of cell S).toInt64)) * 31) + ((0 : Int32).toInt64)) * 31))]) dX5_digestCell_103 [1, 2, 3, 0] (Nat.le_of_ble_eq_true rfl) rfl ?_
      refine qq_aload_n dX5_digestCell_105 rfl 0 rfl ?_
      refine cx_get hS dX5_digestCell_106 0 (by decide) rfl kl_X5_9 ?_
      refine qq_iload_n dX5_digestCell_109 rfl 2 rfl ?_
      refine qq_iald dX5_digestCell_110 hS.2.2.2.1 (by first | assumption | exact qm_in8 (by assumption) (by assumption) | exact qm_in8d (by assumption) (by assumption) | decide) ?_
      refine qq_callS (bc := 0) (bs := 0) (mc := 0) (ms := 0) (as := [.int (S.1 cell.toNatClampNeg)]) (rest := []) dX5_digestCell_111 (mt_X2_hasToldDigits hp (S.1 cell.toNatClampNeg)) rfl kl_X5_261 ks_X2_hasToldDigits ki_X2 kc_X2_hasToldDigits kd_X2_hasToldDigits rfl (by decide) (by decide) (Nat.le_of_ble_eq_true rfl) (fun v hp' hv _ _ => ?_) (fun E hp' zx _ _ => zx.elim)
      obtain ⟨rfl, rfl⟩ := hv
      show qq_Go _ hp 0 0 114 [(0, .ref 80), (1, .long st9), (3, .int cell), (4, .long (((((((st9 * 31) + ((r_X5_kind cell S).toInt64)) * 31) + ((r_X5_of cell S).toInt64)) * 31) + ((0 : Int32).toInt64)) * 31))] [.int (f_X2_hasToldDigits (S.1 cell.toNatClampNeg))] _ _
      refine qq_if_eq (tgt := 150) dX5_digestCell_114 (by decide) (fun zc3 => ?_) (fun zc3 => ?_)
      · refine qq_lload dX5_digestCell_150 3 rfl ?_
        refine qq_ldc2 (v := 31) dX5_digestCell_152 kl_X5_230 ?_
        refine qq_lmul dX5_digestCell_155 ?_
        refine qq_lstore (loc' := [(0, .ref 80), (1, .long st9), (3, .int cell), (4, .long ((((((((st9 * 31) + ((r_X5_kind cell S).toInt64)) * 31) + ((r_X5_of cell S).toInt64)) * 31) + ((0 : Int32).toInt64)) * 31) * 31))]) dX5_digestCell_156 [1, 2, 3, 0] (Nat.le_of_ble_eq_true rfl) rfl ?_
        refine qq_lload dX5_digestCell_158 3 rfl ?_
        refine qq_ldc2 (v := 31) dX5_digestCell_160 kl_X5_230 ?_
        refine qq_lmul dX5_digestCell_163 ?_
        refine qq_aload_n dX5_digestCell_164 rfl 0 rfl ?_
        refine qq_iload_n dX5_digestCell_165 rfl 2 rfl ?_
        refine qq_iconst (v := 0) dX5_digestCell_166 (by decide) ?_
        refine qq_callV (bc := 0) (bs := 0) (mc := 0) (ms := 0) (o := 80) (ci := 2) (N := 6) (T := TX5) (as := [.int cell, .int 0]) (rest := [.long (((((((((st9 * 31) + ((r_X5_kind cell S).toInt64)) * 31) + ((r_X5_of cell S).toInt64)) * 31) + ((0 : Int32).toInt64)) * 31) * 31) * 31)]) dX5_digestCell_167 hS.2.2.1 (by decide) rfl (mo_X5_find hp S hS cell (0 : Int32) (by first | assumption | exact ⟨by assumption, by assumption⟩ | exact qm_in8 (by assumption) (by assumption) | exact ⟨by assumption, qm_len (by assumption)⟩ | exact qm_in8d (by assumption) (by assumption) | decide)) rfl kl_X5_270 kn_X5_find ke_X5_find ki_X5 kc_X5_find kd_X5_find rfl (by decide) (by decide) (Nat.le_of_ble_eq_true rfl) (fun v hp' hv _ _ => ?_) (fun E hp' zx _ _ => zx.elim)
        obtain ⟨rfl, rfl⟩ := hv
        show qq_Go _ hp 0 0 170 [(0, .ref 80), (1, .long st9), (3, .int cell), (4, .long ((((((((st9 * 31) + ((r_X5_kind cell S).toInt64)) * 31) + ((r_X5_of cell S).toInt64)) * 31) + ((0 : Int32).toInt64)) * 31) * 31))] [.int (r_X5_find cell (0 : Int32) S), .long (((((((((st9 * 31) + ((r_X5_kind cell S).toInt64)) * 31) + ((r_X5_of cell S).toInt64)) * 31) + ((0 : Int32).toInt64)) * 31) * 31) * 31)] _ _
        refine qq_i2l dX5_digestCell_170 ?_
        refine qq_ladd dX5_digestCell_171 ?_
        refine qq_lstore (loc' := [(0, .ref 80), (1, .long st9), (3, .int cell), (4, .long ((((((((((st9 * 31) + ((r_X5_kind cell S).toInt64)) * 31) + ((r_X5_of cell S).toInt64)) * 31) + ((0 : Int32).toInt64)) * 31) * 31) * 31) + ((r_X5_find cell (0 : Int32) S).toInt64)))]) dX5_digestCell_172 [1, 2, 3, 0] (Nat.le_of_ble_eq_true rfl) rfl ?_
        refine qq_lload dX5_digestCell_174 3 rfl ?_
        refine qq_ldc2 (v := 31) dX5_digestCell_176 kl_X5_230 ?_
        refine qq_lmul dX5_digestCell_179 ?_
        refine qq_aload_n dX5_digestCell_180 rfl 0 rfl ?_
        refine qq_iload_n dX5_digestCell_181 rfl 2 rfl ?_
        refine qq_iconst (v := 1) dX5_digestCell_182 (by decide) ?_
        refine qq_callV (bc := 0) (bs := 0) (mc := 0) (ms := 0) (o := 80) (ci := 2) (N := 6) (T := TX5) (as := [.int cell, .int 1]) (rest := [.long (((((((((((st9 * 31) + ((r_X5_kind cell S).toInt64)) * 31) + ((r_X5_of cell S).toInt64)) * 31) + ((0 : Int32).toInt64)) * 31) * 31) * 31) + ((r_X5_find cell (0 : Int32) S).toInt64)) * 31)]) dX5_digestCell_183 hS.2.2.1 (by decide) rfl (mo_X5_find hp S hS cell (1 : Int32) (by first | assumption | exact ⟨by assumption, by assumption⟩ | exact qm_in8 (by assumption) (by assumption) | exact ⟨by assumption, qm_len (by assumption)⟩ | exact qm_in8d (by assumption) (by assumption) | decide)) rfl kl_X5_270 kn_X5_find ke_X5_find ki_X5 kc_X5_find kd_X5_find rfl (by decide) (by decide) (Nat.le_of_ble_eq_true rfl) (fun v hp' hv _ _ => ?_) (fun E hp' zx _ _ => zx.elim)
        obtain ⟨rfl, rfl⟩ := hv
        show qq_Go _ hp 0 0 186 [(0, .ref 80), (1, .long st9), (3, .int cell), (4, .long ((((((((((st9 * 31) + ((r_X5_kind cell S).toInt64)) * 31) + ((r_X5_of cell S).toInt64)) * 31) + ((0 : Int32).toInt64)) * 31) * 31) * 31) + ((r_X5_find cell (0 : Int32) S).toInt64)))] [.int (r_X5_find cell (1 : Int32) S), .long (((((((((((st9 * 31) + ((r_X5_kind cell S).toInt64)) * 31) + ((r_X5_of cell S).toInt64)) * 31) + ((0 : Int32).toInt64)) * 31) * 31) * 31) + ((r_X5_find cell (0 : Int32) S).toInt64)) * 31)] _ _
        refine qq_i2l dX5_digestCell_186 ?_
        refine qq_ladd dX5_digestCell_187 ?_
        refine qq_lstore (loc' := [(0, .ref 80), (1, .long st9), (3, .int cell), (4, .long ((((((((((((st9 * 31) + ((r_X5_kind cell S).toInt64)) * 31) + ((r_X5_of cell S).toInt64)) * 31) + ((0 : Int32).toInt64)) * 31) * 31) * 31) + ((r_X5_find cell (0 : Int32) S).toInt64)) * 31) + ((r_X5_find cell (1 : Int32) S).toInt64)))]) dX5_digestCell_188 [1, 2, 3, 0] (Nat.le_of_ble_eq_true rfl) rfl ?_
        refine qq_lload dX5_digestCell_190 3 rfl ?_
        refine qq_ldc2 (v := 31) dX5_digestCell_192 kl_X5_230 ?_
        refine qq_lmul dX5_digestCell_195 ?_
        refine qq_aload_n dX5_digestCell_196 rfl 0 rfl ?_
        refine qq_iload_n dX5_digestCell_197 rfl 2 rfl ?_
        refine qq_callV (bc := 0) (bs := 0) (mc := 0) (ms := 0) (o := 80) (ci := 2) (N := 6) (T := TX5) (as := [.int cell]) (rest := [.long (((((((((((((st9 * 31) + ((r_X5_kind cell S).toInt64)) * 31) + ((r_X5_of cell S).toInt64)) * 31) + ((0 : Int32).toInt64)) * 31) * 31) * 31) + ((r_X5_find cell (0 : Int32) S).toInt64)) * 31) + ((r_X5_find cell (1 : Int32) S).toInt64)) * 31)]) dX5_digestCell_198 hS.2.2.1 (by decide) rfl (mo_X5_rank hp S hS cell (by first | assumption | exact ⟨by assumption, by assumption⟩ | exact qm_in8 (by assumption) (by assumption) | exact ⟨by assumption, qm_len (by assumption)⟩ | exact qm_in8d (by assumption) (by assumption) | decide)) rfl kl_X5_274 kn_X5_rank ke_X5_rank ki_X5 kc_X5_rank kd_X5_rank rfl (by decide) (by decide) (Nat.le_of_ble_eq_true rfl) (fun v hp' hv _ _ => ?_) (fun E hp' zx _ _ => zx.elim)
        obtain ⟨rfl, rfl⟩ := hv
        show qq_Go _ hp 0 0 201 [(0, .ref 80), (1, .long st9), (3, .int cell), (4, .long ((((((((((((st9 * 31) + ((r_X5_kind cell S).toInt64)) * 31) + ((r_X5_of cell S).toInt64)) * 31) + ((0 : Int32).toInt64)) * 31) * 31) * 31) + ((r_X5_find cell (0 : Int32) S).toInt64)) * 31) + ((r_X5_find cell (1 : Int32) S).toInt64)))] [.int (r_X5_rank cell S), .long (((((((((((((st9 * 31) + ((r_X5_kind cell S).toInt64)) * 31) + ((r_X5_of cell S).toInt64)) * 31) + ((0 : Int32).toInt64)) * 31) * 31) * 31) + ((r_X5_find cell (0 : Int32) S).toInt64)) * 31) + ((r_X5_find cell (1 : Int32) S).toInt64)) * 31)] _ _
        refine qq_i2l dX5_digestCell_201 ?_
        refine qq_ladd dX5_digestCell_202 ?_
        refine qq_lstore (loc' := [(0, .ref 80), (1, .long st9), (3, .int cell), (4, .long ((((((((((((((st9 * 31) + ((r_X5_kind cell S).toInt64)) * 31) + ((r_X5_of cell S).toInt64)) * 31) + ((0 : Int32).toInt64)) * 31) * 31) * 31) + ((r_X5_find cell (0 : Int32) S).toInt64)) * 31) + ((r_X5_find cell (1 : Int32) S).toInt64)) * 31) + ((r_X5_rank cell S).toInt64)))]) dX5_digestCell_203 [1, 2, 3, 0] (Nat.le_of_ble_eq_true rfl) rfl ?_
        refine qq_iconst (v := 0) dX5_digestCell_205 (by decide) ?_
        refine qq_istore (loc' := [(0, .ref 80), (1, .long st9), (3, .int cell), (4, .long ((((((((((((((st9 * 31) + ((r_X5_kind cell S).toInt64)) * 31) + ((r_X5_of cell S).toInt64)) * 31) + ((0 : Int32).toInt64)) * 31) * 31) * 31) + ((r_X5_find cell (0 : Int32) S).toInt64)) * 31) + ((r_X5_find cell (1 : Int32) S).toInt64)) * 31) + ((r_X5_rank cell S).toInt64))), (6, .int 0)]) dX5_digestCell_206 [1, 2, 3, 4, 0] (Nat.le_of_ble_eq_true rfl) rfl ?_
        have ze : r_X5_digestCell st9 cell S = lr_X5_digestCell_208 st9 cell 5 ((((((((((((((st9 * 31) + ((r_X5_kind cell S).toInt64)) * 31) + ((r_X5_of cell S).toInt64)) * 31) + ((0 : Int32).toInt64)) * 31) * 31) * 31) + ((r_X5_find cell (0 : Int32) S).toInt64)) * 31) + ((r_X5_find cell (1 : Int32) S).toInt64)) * 31) + ((r_X5_rank cell S).toInt64)) (0 : Int32) S := by
          rw [r_X5_digestCell, if_pos zc1, if_pos zc2, if_pos zc3]
        rw [ze]
        exact lq_X5_digestCell_208 st9 cell zv0 5 ((((((((((((((st9 * 31) + ((r_X5_kind cell S).toInt64)) * 31) + ((r_X5_of cell S).toInt64)) * 31) + ((0 : Int32).toInt64)) * 31) * 31) * 31) + ((r_X5_find cell (0 : Int32) S).toInt64)) * 31) + ((r_X5_find cell (1 : Int32) S).toInt64)) * 31) + ((r_X5_rank cell S).toInt64)) (0 : Int32) hp S hS (by decide) (by decide)
      · refine qq_lload dX5_digestCell_117 3 rfl ?_
        refine qq_ldc2 (v := 31) dX5_digestCell_119 kl_X5_230 ?_
        refine qq_lmul dX5_digestCell_122 ?_
        refine qq_aload_n dX5_digestCell_123 rfl 0 rfl ?_
        refine qq_iload_n dX5_digestCell_124 rfl 2 rfl ?_
        refine qq_callV (bc := 0) (bs := 0) (mc := 0) (ms := 0) (o := 80) (ci := 2) (N := 6) (T := TX5) (as := [.int cell]) (rest := [.long ((((((((st9 * 31) + ((r_X5_kind cell S).toInt64)) * 31) + ((r_X5_of cell S).toInt64)) * 31) + ((0 : Int32).toInt64)) * 31) * 31)]) dX5_digestCell_125 hS.2.2.1 (by decide) rfl (mo_X5_upper hp S hS cell (by first | assumption | exact ⟨by assumption, by assumption⟩ | exact qm_in8 (by assumption) (by assumption) | exact ⟨by assumption, qm_len (by assumption)⟩ | exact qm_in8d (by assumption) (by assumption) | decide) (by first | assumption | exact ⟨by assumption, by assumption⟩ | exact qm_in8 (by assumption) (by assumption) | exact ⟨by assumption, qm_len (by assumption)⟩ | exact qm_in8d (by assumption) (by assumption) | decide)) rfl kl_X5_264 kn_X5_upper ke_X5_upper ki_X5 kc_X5_upper kd_X5_upper rfl (by decide) (by decide) (Nat.le_of_ble_eq_true rfl) (fun v hp' hv _ _ => ?_) (fun E hp' zx _ _ => zx.elim)
        obtain ⟨rfl, rfl⟩ := hv
        show qq_Go _ hp 0 0 128 [(0, .ref 80), (1, .long st9), (3, .int cell), (4, .long (((((((st9 * 31) + ((r_X5_kind cell S).toInt64)) * 31) + ((r_X5_of cell S).toInt64)) * 31) + ((0 : Int32).toInt64)) * 31))] [.int (r_X5_upper cell S), .long ((((((((st9 * 31) + ((r_X5_kind cell S).toInt64)) * 31) + ((r_X5_of cell S).toInt64)) * 31) + ((0 : Int32).toInt64)) * 31) * 31)] _ _
        refine qq_i2l dX5_digestCell_128 ?_
        refine qq_ladd dX5_digestCell_129 ?_
        refine qq_lstore (loc' := [(0, .ref 80), (1, .long st9), (3, .int cell), (4, .long (((((((((st9 * 31) + ((r_X5_kind cell S).toInt64)) * 31) + ((r_X5_of cell S).toInt64)) * 31) + ((0 : Int32).toInt64)) * 31) * 31) + ((r_X5_upper cell S).toInt64)))]) dX5_digestCell_130 [1, 2, 3, 0] (Nat.le_of_ble_eq_true rfl) rfl ?_
        refine qq_lload dX5_digestCell_132 3 rfl ?_
        refine qq_ldc2 (v := 31) dX5_digestCell_134 kl_X5_230 ?_
        refine qq_lmul dX5_digestCell_137 ?_
        refine qq_aload_n dX5_digestCell_138 rfl 0 rfl ?_
        refine qq_iload_n dX5_digestCell_139 rfl 2 rfl ?_
        refine qq_callV (bc := 0) (bs := 0) (mc := 0) (ms := 0) (o := 80) (ci := 2) (N := 6) (T := TX5) (as := [.int cell]) (rest := [.long ((((((((((st9 * 31) + ((r_X5_kind cell S).toInt64)) * 31) + ((r_X5_of cell S).toInt64)) * 31) + ((0 : Int32).toInt64)) * 31) * 31) + ((r_X5_upper cell S).toInt64)) * 31)]) dX5_digestCell_140 hS.2.2.1 (by decide) rfl (mo_X5_lower hp S hS cell (by first | assumption | exact ⟨by assumption, by assumption⟩ | exact qm_in8 (by assumption) (by assumption) | exact ⟨by assumption, qm_len (by assumption)⟩ | exact qm_in8d (by assumption) (by assumption) | decide) (by first | assumption | exact ⟨by assumption, by assumption⟩ | exact qm_in8 (by assumption) (by assumption) | exact ⟨by assumption, qm_len (by assumption)⟩ | exact qm_in8d (by assumption) (by assumption) | decide)) rfl kl_X5_267 kn_X5_lower ke_X5_lower ki_X5 kc_X5_lower kd_X5_lower rfl (by decide) (by decide) (Nat.le_of_ble_eq_true rfl) (fun v hp' hv _ _ => ?_) (fun E hp' zx _ _ => zx.elim)
        obtain ⟨rfl, rfl⟩ := hv
        show qq_Go _ hp 0 0 143 [(0, .ref 80), (1, .long st9), (3, .int cell), (4, .long (((((((((st9 * 31) + ((r_X5_kind cell S).toInt64)) * 31) + ((r_X5_of cell S).toInt64)) * 31) + ((0 : Int32).toInt64)) * 31) * 31) + ((r_X5_upper cell S).toInt64)))] [.int (r_X5_lower cell S), .long ((((((((((st9 * 31) + ((r_X5_kind cell S).toInt64)) * 31) + ((r_X5_of cell S).toInt64)) * 31) + ((0 : Int32).toInt64)) * 31) * 31) + ((r_X5_upper cell S).toInt64)) * 31)] _ _
        refine qq_i2l dX5_digestCell_143 ?_
        refine qq_ladd dX5_digestCell_144 ?_
        refine qq_lstore (loc' := [(0, .ref 80), (1, .long st9), (3, .int cell), (4, .long (((((((((((st9 * 31) + ((r_X5_kind cell S).toInt64)) * 31) + ((r_X5_of cell S).toInt64)) * 31) + ((0 : Int32).toInt64)) * 31) * 31) + ((r_X5_upper cell S).toInt64)) * 31) + ((r_X5_lower cell S).toInt64)))]) dX5_digestCell_145 [1, 2, 3, 0] (Nat.le_of_ble_eq_true rfl) rfl ?_
        refine qq_goto (tgt := 158) dX5_digestCell_147 (by decide) ?_
        refine qq_lload dX5_digestCell_158 3 rfl ?_
        refine qq_ldc2 (v := 31) dX5_digestCell_160 kl_X5_230 ?_
        refine qq_lmul dX5_digestCell_163 ?_
        refine qq_aload_n dX5_digestCell_164 rfl 0 rfl ?_
        refine qq_iload_n dX5_digestCell_165 rfl 2 rfl ?_
        refine qq_iconst (v := 0) dX5_digestCell_166 (by decide) ?_
        refine qq_callV (bc := 0) (bs := 0) (mc := 0) (ms := 0) (o := 80) (ci := 2) (N := 6) (T := TX5) (as := [.int cell, .int 0]) (rest := [.long ((((((((((((st9 * 31) + ((r_X5_kind cell S).toInt64)) * 31) + ((r_X5_of cell S).toInt64)) * 31) + ((0 : Int32).toInt64)) * 31) * 31) + ((r_X5_upper cell S).toInt64)) * 31) + ((r_X5_lower cell S).toInt64)) * 31)]) dX5_digestCell_167 hS.2.2.1 (by decide) rfl (mo_X5_find hp S hS cell (0 : Int32) (by first | assumption | exact ⟨by assumption, by assumption⟩ | exact qm_in8 (by assumption) (by assumption) | exact ⟨by assumption, qm_len (by assumption)⟩ | exact qm_in8d (by assumption) (by assumption) | decide)) rfl kl_X5_270 kn_X5_find ke_X5_find ki_X5 kc_X5_find kd_X5_find rfl (by decide) (by decide) (Nat.le_of_ble_eq_true rfl) (fun v hp' hv _ _ => ?_) (fun E hp' zx _ _ => zx.elim)
        obtain ⟨rfl, rfl⟩ := hv
        show qq_Go _ hp 0 0 170 [(0, .ref 80), (1, .long st9), (3, .int cell), (4, .long (((((((((((st9 * 31) + ((r_X5_kind cell S).toInt64)) * 31) + ((r_X5_of cell S).toInt64)) * 31) + ((0 : Int32).toInt64)) * 31) * 31) + ((r_X5_upper cell S).toInt64)) * 31) + ((r_X5_lower cell S).toInt64)))] [.int (r_X5_find cell (0 : Int32) S), .long ((((((((((((st9 * 31) + ((r_X5_kind cell S).toInt64)) * 31) + ((r_X5_of cell S).toInt64)) * 31) + ((0 : Int32).toInt64)) * 31) * 31) + ((r_X5_upper cell S).toInt64)) * 31) + ((r_X5_lower cell S).toInt64)) * 31)] _ _
        refine qq_i2l dX5_digestCell_170 ?_
        refine qq_ladd dX5_digestCell_171 ?_
        refine qq_lstore (loc' := [(0, .ref 80), (1, .long st9), (3, .int cell), (4, .long (((((((((((((st9 * 31) + ((r_X5_kind cell S).toInt64)) * 31) + ((r_X5_of cell S).toInt64)) * 31) + ((0 : Int32).toInt64)) * 31) * 31) + ((r_X5_upper cell S).toInt64)) * 31) + ((r_X5_lower cell S).toInt64)) * 31) + ((r_X5_find cell (0 : Int32) S).toInt64)))]) dX5_digestCell_172 [1, 2, 3, 0] (Nat.le_of_ble_eq_true rfl) rfl ?_
        refine qq_lload dX5_digestCell_174 3 rfl ?_
        refine qq_ldc2 (v := 31) dX5_digestCell_176 kl_X5_230 ?_
        refine qq_lmul dX5_digestCell_179 ?_
        refine qq_aload_n dX5_digestCell_180 rfl 0 rfl ?_
        refine qq_iload_n dX5_digestCell_181 rfl 2 rfl ?_
        refine qq_iconst (v := 1) dX5_digestCell_182 (by decide) ?_
        refine qq_callV (bc := 0) (bs := 0) (mc := 0) (ms := 0) (o := 80) (ci := 2) (N := 6) (T := TX5) (as := [.int cell, .int 1]) (rest := [.long ((((((((((((((st9 * 31) + ((r_X5_kind cell S).toInt64)) * 31) + ((r_X5_of cell S).toInt64)) * 31) + ((0 : Int32).toInt64)) * 31) * 31) + ((r_X5_upper cell S).toInt64)) * 31) + ((r_X5_lower cell S).toInt64)) * 31) + ((r_X5_find cell (0 : Int32) S).toInt64)) * 31)]) dX5_digestCell_183 hS.2.2.1 (by decide) rfl (mo_X5_find hp S hS cell (1 : Int32) (by first | assumption | exact ⟨by assumption, by assumption⟩ | exact qm_in8 (by assumption) (by assumption) | exact ⟨by assumption, qm_len (by assumption)⟩ | exact qm_in8d (by assumption) (by assumption) | decide)) rfl kl_X5_270 kn_X5_find ke_X5_find ki_X5 kc_X5_find kd_X5_find rfl (by decide) (by decide) (Nat.le_of_ble_eq_true rfl) (fun v hp' hv _ _ => ?_) (fun E hp' zx _ _ => zx.elim)
        obtain ⟨rfl, rfl⟩ := hv
        show qq_Go _ hp 0 0 186 [(0, .ref 80), (1, .long st9), (3, .int cell), (4, .long (((((((((((((st9 * 31) + ((r_X5_kind cell S).toInt64)) * 31) + ((r_X5_of cell S).toInt64)) * 31) + ((0 : Int32).toInt64)) * 31) * 31) + ((r_X5_upper cell S).toInt64)) * 31) + ((r_X5_lower cell S).toInt64)) * 31) + ((r_X5_find cell (0 : Int32) S).toInt64)))] [.int (r_X5_find cell (1 : Int32) S), .long ((((((((((((((st9 * 31) + ((r_X5_kind cell S).toInt64)) * 31) + ((r_X5_of cell S).toInt64)) * 31) + ((0 : Int32).toInt64)) * 31) * 31) + ((r_X5_upper cell S).toInt64)) * 31) + ((r_X5_lower cell S).toInt64)) * 31) + ((r_X5_find cell (0 : Int32) S).toInt64)) * 31)] _ _
        refine qq_i2l dX5_digestCell_186 ?_
        refine qq_ladd dX5_digestCell_187 ?_
        refine qq_lstore (loc' := [(0, .ref 80), (1, .long st9), (3, .int cell), (4, .long (((((((((((((((st9 * 31) + ((r_X5_kind cell S).toInt64)) * 31) + ((r_X5_of cell S).toInt64)) * 31) + ((0 : Int32).toInt64)) * 31) * 31) + ((r_X5_upper cell S).toInt64)) * 31) + ((r_X5_lower cell S).toInt64)) * 31) + ((r_X5_find cell (0 : Int32) S).toInt64)) * 31) + ((r_X5_find cell (1 : Int32) S).toInt64)))]) dX5_digestCell_188 [1, 2, 3, 0] (Nat.le_of_ble_eq_true rfl) rfl ?_
        refine qq_lload dX5_digestCell_190 3 rfl ?_
        refine qq_ldc2 (v := 31) dX5_digestCell_192 kl_X5_230 ?_
        refine qq_lmul dX5_digestCell_195 ?_
        refine qq_aload_n dX5_digestCell_196 rfl 0 rfl ?_
        refine qq_iload_n dX5_digestCell_197 rfl 2 rfl ?_
        refine qq_callV (bc := 0) (bs := 0) (mc := 0) (ms := 0) (o := 80) (ci := 2) (N := 6) (T := TX5) (as := [.int cell]) (rest := [.long ((((((((((((((((st9 * 31) + ((r_X5_kind cell S).toInt64)) * 31) + ((r_X5_of cell S).toInt64)) * 31) + ((0 : Int32).toInt64)) * 31) * 31) + ((r_X5_upper cell S).toInt64)) * 31) + ((r_X5_lower cell S).toInt64)) * 31) + ((r_X5_find cell (0 : Int32) S).toInt64)) * 31) + ((r_X5_find cell (1 : Int32) S).toInt64)) * 31)]) dX5_digestCell_198 hS.2.2.1 (by decide) rfl (mo_X5_rank hp S hS cell (by first | assumption | exact ⟨by assumption, by assumption⟩ | exact qm_in8 (by assumption) (by assumption) | exact ⟨by assumption, qm_len (by assumption)⟩ | exact qm_in8d (by assumption) (by assumption) | decide)) rfl kl_X5_274 kn_X5_rank ke_X5_rank ki_X5 kc_X5_rank kd_X5_rank rfl (by decide) (by decide) (Nat.le_of_ble_eq_true rfl) (fun v hp' hv _ _ => ?_) (fun E hp' zx _ _ => zx.elim)
        obtain ⟨rfl, rfl⟩ := hv
        show qq_Go _ hp 0 0 201 [(0, .ref 80), (1, .long st9), (3, .int cell), (4, .long (((((((((((((((st9 * 31) + ((r_X5_kind cell S).toInt64)) * 31) + ((r_X5_of cell S).toInt64)) * 31) + ((0 : Int32).toInt64)) * 31) * 31) + ((r_X5_upper cell S).toInt64)) * 31) + ((r_X5_lower cell S).toInt64)) * 31) + ((r_X5_find cell (0 : Int32) S).toInt64)) * 31) + ((r_X5_find cell (1 : Int32) S).toInt64)))] [.int (r_X5_rank cell S), .long ((((((((((((((((st9 * 31) + ((r_X5_kind cell S).toInt64)) * 31) + ((r_X5_of cell S).toInt64)) * 31) + ((0 : Int32).toInt64)) * 31) * 31) + ((r_X5_upper cell S).toInt64)) * 31) + ((r_X5_lower cell S).toInt64)) * 31) + ((r_X5_find cell (0 : Int32) S).toInt64)) * 31) + ((r_X5_find cell (1 : Int32) S).toInt64)) * 31)] _ _
        refine qq_i2l dX5_digestCell_201 ?_
        refine qq_ladd dX5_digestCell_202 ?_
        refine qq_lstore (loc' := [(0, .ref 80), (1, .long st9), (3, .int cell), (4, .long (((((((((((((((((st9 * 31) + ((r_X5_kind cell S).toInt64)) * 31) + ((r_X5_of cell S).toInt64)) * 31) + ((0 : Int32).toInt64)) * 31) * 31) + ((r_X5_upper cell S).toInt64)) * 31) + ((r_X5_lower cell S).toInt64)) * 31) + ((r_X5_find cell (0 : Int32) S).toInt64)) * 31) + ((r_X5_find cell (1 : Int32) S).toInt64)) * 31) + ((r_X5_rank cell S).toInt64)))]) dX5_digestCell_203 [1, 2, 3, 0] (Nat.le_of_ble_eq_true rfl) rfl ?_
        refine qq_iconst (v := 0) dX5_digestCell_205 (by decide) ?_
        refine qq_istore (loc' := [(0, .ref 80), (1, .long st9), (3, .int cell), (4, .long (((((((((((((((((st9 * 31) + ((r_X5_kind cell S).toInt64)) * 31) + ((r_X5_of cell S).toInt64)) * 31) + ((0 : Int32).toInt64)) * 31) * 31) + ((r_X5_upper cell S).toInt64)) * 31) + ((r_X5_lower cell S).toInt64)) * 31) + ((r_X5_find cell (0 : Int32) S).toInt64)) * 31) + ((r_X5_find cell (1 : Int32) S).toInt64)) * 31) + ((r_X5_rank cell S).toInt64))), (6, .int 0)]) dX5_digestCell_206 [1, 2, 3, 4, 0] (Nat.le_of_ble_eq_true rfl) rfl ?_
        have ze : r_X5_digestCell st9 cell S = lr_X5_digestCell_208 st9 cell 5 (((((((((((((((((st9 * 31) + ((r_X5_kind cell S).toInt64)) * 31) + ((r_X5_of cell S).toInt64)) * 31) + ((0 : Int32).toInt64)) * 31) * 31) + ((r_X5_upper cell S).toInt64)) * 31) + ((r_X5_lower cell S).toInt64)) * 31) + ((r_X5_find cell (0 : Int32) S).toInt64)) * 31) + ((r_X5_find cell (1 : Int32) S).toInt64)) * 31) + ((r_X5_rank cell S).toInt64)) (0 : Int32) S := by
          rw [r_X5_digestCell, if_pos zc1, if_pos zc2, if_neg zc3]
        rw [ze]
        exact lq_X5_digestCell_208 st9 cell zv0 5 (((((((((((((((((st9 * 31) + ((r_X5_kind cell S).toInt64)) * 31) + ((r_X5_of cell S).toInt64)) * 31) + ((0 : Int32).toInt64)) * 31) * 31) + ((r_X5_upper cell S).toInt64)) * 31) + ((r_X5_lower cell S).toInt64)) * 31) + ((r_X5_find cell (0 : Int32) S).toInt64)) * 31) + ((r_X5_find cell (1 : Int32) S).toInt64)) * 31) + ((r_X5_rank cell S).toInt64)) (0 : Int32) hp S hS (by decide) (by decide)
    · refine qq_lload dX5_digestCell_64 3 rfl ?_
      refine qq_ldc2 (v := 31) dX5_digestCell_66 kl_X5_230 ?_
      refine qq_lmul dX5_digestCell_69 ?_
      refine qq_aload_n dX5_digestCell_70 rfl 0 rfl ?_
      refine qq_iload_n dX5_digestCell_71 rfl 2 rfl ?_
      refine qq_callV (bc := 0) (bs := 0) (mc := 0) (ms := 0) (o := 80) (ci := 2) (N := 6) (T := TX5) (as := [.int cell]) (rest := [.long (((((((st9 * 31) + ((r_X5_kind cell S).toInt64)) * 31) + ((r_X5_of cell S).toInt64)) * 31) + ((0 : Int32).toInt64)) * 31)]) dX5_digestCell_72 hS.2.2.1 (by decide) rfl (mo_X5_height hp S hS cell (by first | assumption | exact ⟨by assumption, by assumption⟩ | exact qm_in8 (by assumption) (by assumption) | exact ⟨by assumption, qm_len (by assumption)⟩ | exact qm_in8d (by assumption) (by assumption) | decide) (by first | assumption | exact ⟨by assumption, by assumption⟩ | exact qm_in8 (by assumption) (by assumption) | exact ⟨by assumption, qm_len (by assumption)⟩ | exact qm_in8d (by assumption) (by assumption) | decide)) rfl kl_X5_255 kn_X5_height ke_X5_height ki_X5 kc_X5_height kd_X5_height rfl (by decide) (by decide) (Nat.le_of_ble_eq_true rfl) (fun v hp' hv _ _ => ?_) (fun E hp' zx _ _ => zx.elim)
      obtain ⟨rfl, rfl⟩ := hv
      show qq_Go _ hp 0 0 75 [(0, .ref 80), (1, .long st9), (3, .int cell), (4, .long ((((((st9 * 31) + ((r_X5_kind cell S).toInt64)) * 31) + ((r_X5_of cell S).toInt64)) * 31) + ((0 : Int32).toInt64)))] [.int (r_X5_height cell S), .long (((((((st9 * 31) + ((r_X5_kind cell S).toInt64)) * 31) + ((r_X5_of cell S).toInt64)) * 31) + ((0 : Int32).toInt64)) * 31)] _ _
      refine qq_i2l dX5_digestCell_75 ?_
      refine qq_ladd dX5_digestCell_76 ?_
      refine qq_lstore (loc' := [(0, .ref 80), (1, .long st9), (3, .int cell), (4, .long ((((((((st9 * 31) + ((r_X5_kind cell S).toInt64)) * 31) + ((r_X5_of cell S).toInt64)) * 31) + ((0 : Int32).toInt64)) * 31) + ((r_X5_height cell S).toInt64)))]) dX5_digestCell_77 [1, 2, 3, 0] (Nat.le_of_ble_eq_true rfl) rfl ?_
      refine qq_lload dX5_digestCell_79 3 rfl ?_
      refine qq_ldc2 (v := 31) dX5_digestCell_81 kl_X5_230 ?_
      refine qq_lmul dX5_digestCell_84 ?_
      refine qq_aload_n dX5_digestCell_85 rfl 0 rfl ?_
      refine qq_iload_n dX5_digestCell_86 rfl 2 rfl ?_
      refine qq_callV (bc := 0) (bs := 0) (mc := 0) (ms := 0) (o := 80) (ci := 2) (N := 6) (T := TX5) (as := [.int cell]) (rest := [.long (((((((((st9 * 31) + ((r_X5_kind cell S).toInt64)) * 31) + ((r_X5_of cell S).toInt64)) * 31) + ((0 : Int32).toInt64)) * 31) + ((r_X5_height cell S).toInt64)) * 31)]) dX5_digestCell_87 hS.2.2.1 (by decide) rfl (mo_X5_digits hp S hS cell (by first | assumption | exact ⟨by assumption, by assumption⟩ | exact qm_in8 (by assumption) (by assumption) | exact ⟨by assumption, qm_len (by assumption)⟩ | exact qm_in8d (by assumption) (by assumption) | decide) (by first | assumption | exact ⟨by assumption, by assumption⟩ | exact qm_in8 (by assumption) (by assumption) | exact ⟨by assumption, qm_len (by assumption)⟩ | exact qm_in8d (by assumption) (by assumption) | decide)) rfl kl_X5_258 kn_X5_digits ke_X5_digits ki_X5 kc_X5_digits kd_X5_digits rfl (by decide) (by decide) (Nat.le_of_ble_eq_true rfl) (fun v hp' hv _ _ => ?_) (fun E hp' zx _ _ => zx.elim)
      obtain ⟨rfl, rfl⟩ := hv
      show qq_Go _ hp 0 0 90 [(0, .ref 80), (1, .long st9), (3, .int cell), (4, .long ((((((((st9 * 31) + ((r_X5_kind cell S).toInt64)) * 31) + ((r_X5_of cell S).toInt64)) * 31) + ((0 : Int32).toInt64)) * 31) + ((r_X5_height cell S).toInt64)))] [.int (r_X5_digits cell S), .long (((((((((st9 * 31) + ((r_X5_kind cell S).toInt64)) * 31) + ((r_X5_of cell S).toInt64)) * 31) + ((0 : Int32).toInt64)) * 31) + ((r_X5_height cell S).toInt64)) * 31)] _ _
      refine qq_i2l dX5_digestCell_90 ?_
      refine qq_ladd dX5_digestCell_91 ?_
      refine qq_lstore (loc' := [(0, .ref 80), (1, .long st9), (3, .int cell), (4, .long ((((((((((st9 * 31) + ((r_X5_kind cell S).toInt64)) * 31) + ((r_X5_of cell S).toInt64)) * 31) + ((0 : Int32).toInt64)) * 31) + ((r_X5_height cell S).toInt64)) * 31) + ((r_X5_digits cell S).toInt64)))]) dX5_digestCell_92 [1, 2, 3, 0] (Nat.le_of_ble_eq_true rfl) rfl ?_
      refine qq_goto (tgt := 105) dX5_digestCell_94 (by decide) ?_
      refine qq_aload_n dX5_digestCell_105 rfl 0 rfl ?_
      refine cx_get hS dX5_digestCell_106 0 (by decide) rfl kl_X5_9 ?_
      refine qq_iload_n dX5_digestCell_109 rfl 2 rfl ?_
      refine qq_iald dX5_digestCell_110 hS.2.2.2.1 (by first | assumption | exact qm_in8 (by assumption) (by assumption) | exact qm_in8d (by assumption) (by assumption) | decide) ?_
      refine qq_callS (bc := 0) (bs := 0) (mc := 0) (ms := 0) (as := [.int (S.1 cell.toNatClampNeg)]) (rest := []) dX5_digestCell_111 (mt_X2_hasToldDigits hp (S.1 cell.toNatClampNeg)) rfl kl_X5_261 ks_X2_hasToldDigits ki_X2 kc_X2_hasToldDigits kd_X2_hasToldDigits rfl (by decide) (by decide) (Nat.le_of_ble_eq_true rfl) (fun v hp' hv _ _ => ?_) (fun E hp' zx _ _ => zx.elim)
      obtain ⟨rfl, rfl⟩ := hv
      show qq_Go _ hp 0 0 114 [(0, .ref 80), (1, .long st9), (3, .int cell), (4, .long ((((((((((st9 * 31) + ((r_X5_kind cell S).toInt64)) * 31) + ((r_X5_of cell S).toInt64)) * 31) + ((0 : Int32).toInt64)) * 31) + ((r_X5_height cell S).toInt64)) * 31) + ((r_X5_digits cell S).toInt64)))] [.int (f_X2_hasToldDigits (S.1 cell.toNatClampNeg))] _ _
      refine qq_if_eq (tgt := 150) dX5_digestCell_114 (by decide) (fun zc4 => ?_) (fun zc4 => ?_)
      · refine qq_lload dX5_digestCell_150 3 rfl ?_
        refine qq_ldc2 (v := 31) dX5_digestCell_152 kl_X5_230 ?_
        refine qq_lmul dX5_digestCell_155 ?_
        refine qq_lstore (loc' := [(0, .ref 80), (1, .long st9), (3, .int cell), (4, .long (((((((((((st9 * 31) + ((r_X5_kind cell S).toInt64)) * 31) + ((r_X5_of cell S).toInt64)) * 31) + ((0 : Int32).toInt64)) * 31) + ((r_X5_height cell S).toInt64)) * 31) + ((r_X5_digits cell S).toInt64)) * 31))]) dX5_digestCell_156 [1, 2, 3, 0] (Nat.le_of_ble_eq_true rfl) rfl ?_
        refine qq_lload dX5_digestCell_158 3 rfl ?_
        refine qq_ldc2 (v := 31) dX5_digestCell_160 kl_X5_230 ?_
        refine qq_lmul dX5_digestCell_163 ?_
        refine qq_aload_n dX5_digestCell_164 rfl 0 rfl ?_
        refine qq_iload_n dX5_digestCell_165 rfl 2 rfl ?_
        refine qq_iconst (v := 0) dX5_digestCell_166 (by decide) ?_
        refine qq_callV (bc := 0) (bs := 0) (mc := 0) (ms := 0) (o := 80) (ci := 2) (N := 6) (T := TX5) (as := [.int cell, .int 0]) (rest := [.long ((((((((((((st9 * 31) + ((r_X5_kind cell S).toInt64)) * 31) + ((r_X5_of cell S).toInt64)) * 31) + ((0 : Int32).toInt64)) * 31) + ((r_X5_height cell S).toInt64)) * 31) + ((r_X5_digits cell S).toInt64)) * 31) * 31)]) dX5_digestCell_167 hS.2.2.1 (by decide) rfl (mo_X5_find hp S hS cell (0 : Int32) (by first | assumption | exact ⟨by assumption, by assumption⟩ | exact qm_in8 (by assumption) (by assumption) | exact ⟨by assumption, qm_len (by assumption)⟩ | exact qm_in8d (by assumption) (by assumption) | decide)) rfl kl_X5_270 kn_X5_find ke_X5_find ki_X5 kc_X5_find kd_X5_find rfl (by decide) (by decide) (Nat.le_of_ble_eq_true rfl) (fun v hp' hv _ _ => ?_) (fun E hp' zx _ _ => zx.elim)
        obtain ⟨rfl, rfl⟩ := hv
        show qq_Go _ hp 0 0 170 [(0, .ref 80), (1, .long st9), (3, .int cell), (4, .long (((((((((((st9 * 31) + ((r_X5_kind cell S).toInt64)) * 31) + ((r_X5_of cell S).toInt64)) * 31) + ((0 : Int32).toInt64)) * 31) + ((r_X5_height cell S).toInt64)) * 31) + ((r_X5_digits cell S).toInt64)) * 31))] [.int (r_X5_find cell (0 : Int32) S), .long ((((((((((((st9 * 31) + ((r_X5_kind cell S).toInt64)) * 31) + ((r_X5_of cell S).toInt64)) * 31) + ((0 : Int32).toInt64)) * 31) + ((r_X5_height cell S).toInt64)) * 31) + ((r_X5_digits cell S).toInt64)) * 31) * 31)] _ _
        refine qq_i2l dX5_digestCell_170 ?_
        refine qq_ladd dX5_digestCell_171 ?_
        refine qq_lstore (loc' := [(0, .ref 80), (1, .long st9), (3, .int cell), (4, .long (((((((((((((st9 * 31) + ((r_X5_kind cell S).toInt64)) * 31) + ((r_X5_of cell S).toInt64)) * 31) + ((0 : Int32).toInt64)) * 31) + ((r_X5_height cell S).toInt64)) * 31) + ((r_X5_digits cell S).toInt64)) * 31) * 31) + ((r_X5_find cell (0 : Int32) S).toInt64)))]) dX5_digestCell_172 [1, 2, 3, 0] (Nat.le_of_ble_eq_true rfl) rfl ?_
        refine qq_lload dX5_digestCell_174 3 rfl ?_
        refine qq_ldc2 (v := 31) dX5_digestCell_176 kl_X5_230 ?_
        refine qq_lmul dX5_digestCell_179 ?_
        refine qq_aload_n dX5_digestCell_180 rfl 0 rfl ?_
        refine qq_iload_n dX5_digestCell_181 rfl 2 rfl ?_
        refine qq_iconst (v := 1) dX5_digestCell_182 (by decide) ?_
        refine qq_callV (bc := 0) (bs := 0) (mc := 0) (ms := 0) (o := 80) (ci := 2) (N := 6) (T := TX5) (as := [.int cell, .int 1]) (rest := [.long ((((((((((((((st9 * 31) + ((r_X5_kind cell S).toInt64)) * 31) + ((r_X5_of cell S).toInt64)) * 31) + ((0 : Int32).toInt64)) * 31) + ((r_X5_height cell S).toInt64)) * 31) + ((r_X5_digits cell S).toInt64)) * 31) * 31) + ((r_X5_find cell (0 : Int32) S).toInt64)) * 31)]) dX5_digestCell_183 hS.2.2.1 (by decide) rfl (mo_X5_find hp S hS cell (1 : Int32) (by first | assumption | exact ⟨by assumption, by assumption⟩ | exact qm_in8 (by assumption) (by assumption) | exact ⟨by assumption, qm_len (by assumption)⟩ | exact qm_in8d (by assumption) (by assumption) | decide)) rfl kl_X5_270 kn_X5_find ke_X5_find ki_X5 kc_X5_find kd_X5_find rfl (by decide) (by decide) (Nat.le_of_ble_eq_true rfl) (fun v hp' hv _ _ => ?_) (fun E hp' zx _ _ => zx.elim)
        obtain ⟨rfl, rfl⟩ := hv
        show qq_Go _ hp 0 0 186 [(0, .ref 80), (1, .long st9), (3, .int cell), (4, .long (((((((((((((st9 * 31) + ((r_X5_kind cell S).toInt64)) * 31) + ((r_X5_of cell S).toInt64)) * 31) + ((0 : Int32).toInt64)) * 31) + ((r_X5_height cell S).toInt64)) * 31) + ((r_X5_digits cell S).toInt64)) * 31) * 31) + ((r_X5_find cell (0 : Int32) S).toInt64)))] [.int (r_X5_find cell (1 : Int32) S), .long ((((((((((((((st9 * 31) + ((r_X5_kind cell S).toInt64)) * 31) + ((r_X5_of cell S).toInt64)) * 31) + ((0 : Int32).toInt64)) * 31) + ((r_X5_height cell S).toInt64)) * 31) + ((r_X5_digits cell S).toInt64)) * 31) * 31) + ((r_X5_find cell (0 : Int32) S).toInt64)) * 31)] _ _
        refine qq_i2l dX5_digestCell_186 ?_
        refine qq_ladd dX5_digestCell_187 ?_
        refine qq_lstore (loc' := [(0, .ref 80), (1, .long st9), (3, .int cell), (4, .long (((((((((((((((st9 * 31) + ((r_X5_kind cell S).toInt64)) * 31) + ((r_X5_of cell S).toInt64)) * 31) + ((0 : Int32).toInt64)) * 31) + ((r_X5_height cell S).toInt64)) * 31) + ((r_X5_digits cell S).toInt64)) * 31) * 31) + ((r_X5_find cell (0 : Int32) S).toInt64)) * 31) + ((r_X5_find cell (1 : Int32) S).toInt64)))]) dX5_digestCell_188 [1, 2, 3, 0] (Nat.le_of_ble_eq_true rfl) rfl ?_
        refine qq_lload dX5_digestCell_190 3 rfl ?_
        refine qq_ldc2 (v := 31) dX5_digestCell_192 kl_X5_230 ?_
        refine qq_lmul dX5_digestCell_195 ?_
        refine qq_aload_n dX5_digestCell_196 rfl 0 rfl ?_
        refine qq_iload_n dX5_digestCell_197 rfl 2 rfl ?_
        refine qq_callV (bc := 0) (bs := 0) (mc := 0) (ms := 0) (o := 80) (ci := 2) (N := 6) (T := TX5) (as := [.int cell]) (rest := [.long ((((((((((((((((st9 * 31) + ((r_X5_kind cell S).toInt64)) * 31) + ((r_X5_of cell S).toInt64)) * 31) + ((0 : Int32).toInt64)) * 31) + ((r_X5_height cell S).toInt64)) * 31) + ((r_X5_digits cell S).toInt64)) * 31) * 31) + ((r_X5_find cell (0 : Int32) S).toInt64)) * 31) + ((r_X5_find cell (1 : Int32) S).toInt64)) * 31)]) dX5_digestCell_198 hS.2.2.1 (by decide) rfl (mo_X5_rank hp S hS cell (by first | assumption | exact ⟨by assumption, by assumption⟩ | exact qm_in8 (by assumption) (by assumption) | exact ⟨by assumption, qm_len (by assumption)⟩ | exact qm_in8d (by assumption) (by assumption) | decide)) rfl kl_X5_274 kn_X5_rank ke_X5_rank ki_X5 kc_X5_rank kd_X5_rank rfl (by decide) (by decide) (Nat.le_of_ble_eq_true rfl) (fun v hp' hv _ _ => ?_) (fun E hp' zx _ _ => zx.elim)
        obtain ⟨rfl, rfl⟩ := hv
        show qq_Go _ hp 0 0 201 [(0, .ref 80), (1, .long st9), (3, .int cell), (4, .long (((((((((((((((st9 * 31) + ((r_X5_kind cell S).toInt64)) * 31) + ((r_X5_of cell S).toInt64)) * 31) + ((0 : Int32).toInt64)) * 31) + ((r_X5_height cell S).toInt64)) * 31) + ((r_X5_digits cell S).toInt64)) * 31) * 31) + ((r_X5_find cell (0 : Int32) S).toInt64)) * 31) + ((r_X5_find cell (1 : Int32) S).toInt64)))] [.int (r_X5_rank cell S), .long ((((((((((((((((st9 * 31) + ((r_X5_kind cell S).toInt64)) * 31) + ((r_X5_of cell S).toInt64)) * 31) + ((0 : Int32).toInt64)) * 31) + ((r_X5_height cell S).toInt64)) * 31) + ((r_X5_digits cell S).toInt64)) * 31) * 31) + ((r_X5_find cell (0 : Int32) S).toInt64)) * 31) + ((r_X5_find cell (1 : Int32) S).toInt64)) * 31)] _ _
        refine qq_i2l dX5_digestCell_201 ?_
        refine qq_ladd dX5_digestCell_202 ?_
        refine qq_lstore (loc' := [(0, .ref 80), (1, .long st9), (3, .int cell), (4, .long (((((((((((((((((st9 * 31) + ((r_X5_kind cell S).toInt64)) * 31) + ((r_X5_of cell S).toInt64)) * 31) + ((0 : Int32).toInt64)) * 31) + ((r_X5_height cell S).toInt64)) * 31) + ((r_X5_digits cell S).toInt64)) * 31) * 31) + ((r_X5_find cell (0 : Int32) S).toInt64)) * 31) + ((r_X5_find cell (1 : Int32) S).toInt64)) * 31) + ((r_X5_rank cell S).toInt64)))]) dX5_digestCell_203 [1, 2, 3, 0] (Nat.le_of_ble_eq_true rfl) rfl ?_
        refine qq_iconst (v := 0) dX5_digestCell_205 (by decide) ?_
        refine qq_istore (loc' := [(0, .ref 80), (1, .long st9), (3, .int cell), (4, .long (((((((((((((((((st9 * 31) + ((r_X5_kind cell S).toInt64)) * 31) + ((r_X5_of cell S).toInt64)) * 31) + ((0 : Int32).toInt64)) * 31) + ((r_X5_height cell S).toInt64)) * 31) + ((r_X5_digits cell S).toInt64)) * 31) * 31) + ((r_X5_find cell (0 : Int32) S).toInt64)) * 31) + ((r_X5_find cell (1 : Int32) S).toInt64)) * 31) + ((r_X5_rank cell S).toInt64))), (6, .int 0)]) dX5_digestCell_206 [1, 2, 3, 4, 0] (Nat.le_of_ble_eq_true rfl) rfl ?_
        have ze : r_X5_digestCell st9 cell S = lr_X5_digestCell_208 st9 cell 5 (((((((((((((((((st9 * 31) + ((r_X5_kind cell S).toInt64)) * 31) + ((r_X5_of cell S).toInt64)) * 31) + ((0 : Int32).toInt64)) * 31) + ((r_X5_height cell S).toInt64)) * 31) + ((r_X5_digits cell S).toInt64)) * 31) * 31) + ((r_X5_find cell (0 : Int32) S).toInt64)) * 31) + ((r_X5_find cell (1 : Int32) S).toInt64)) * 31) + ((r_X5_rank cell S).toInt64)) (0 : Int32) S := by
          rw [r_X5_digestCell, if_pos zc1, if_neg zc2, if_pos zc4]
        rw [ze]
        exact lq_X5_digestCell_208 st9 cell zv0 5 (((((((((((((((((st9 * 31) + ((r_X5_kind cell S).toInt64)) * 31) + ((r_X5_of cell S).toInt64)) * 31) + ((0 : Int32).toInt64)) * 31) + ((r_X5_height cell S).toInt64)) * 31) + ((r_X5_digits cell S).toInt64)) * 31) * 31) + ((r_X5_find cell (0 : Int32) S).toInt64)) * 31) + ((r_X5_find cell (1 : Int32) S).toInt64)) * 31) + ((r_X5_rank cell S).toInt64)) (0 : Int32) hp S hS (by decide) (by decide)
      · refine qq_lload dX5_digestCell_117 3 rfl ?_
        refine qq_ldc2 (v := 31) dX5_digestCell_119 kl_X5_230 ?_
        refine qq_lmul dX5_digestCell_122 ?_
        refine qq_aload_n dX5_digestCell_123 rfl 0 rfl ?_
        refine qq_iload_n dX5_digestCell_124 rfl 2 rfl ?_
        refine qq_callV (bc := 0) (bs := 0) (mc := 0) (ms := 0) (o := 80) (ci := 2) (N := 6) (T := TX5) (as := [.int cell]) (rest := [.long (((((((((((st9 * 31) + ((r_X5_kind cell S).toInt64)) * 31) + ((r_X5_of cell S).toInt64)) * 31) + ((0 : Int32).toInt64)) * 31) + ((r_X5_height cell S).toInt64)) * 31) + ((r_X5_digits cell S).toInt64)) * 31)]) dX5_digestCell_125 hS.2.2.1 (by decide) rfl (mo_X5_upper hp S hS cell (by first | assumption | exact ⟨by assumption, by assumption⟩ | exact qm_in8 (by assumption) (by assumption) | exact ⟨by assumption, qm_len (by assumption)⟩ | exact qm_in8d (by assumption) (by assumption) | decide) (by first | assumption | exact ⟨by assumption, by assumption⟩ | exact qm_in8 (by assumption) (by assumption) | exact ⟨by assumption, qm_len (by assumption)⟩ | exact qm_in8d (by assumption) (by assumption) | decide)) rfl kl_X5_264 kn_X5_upper ke_X5_upper ki_X5 kc_X5_upper kd_X5_upper rfl (by decide) (by decide) (Nat.le_of_ble_eq_true rfl) (fun v hp' hv _ _ => ?_) (fun E hp' zx _ _ => zx.elim)
        obtain ⟨rfl, rfl⟩ := hv
        show qq_Go _ hp 0 0 128 [(0, .ref 80), (1, .long st9), (3, .int cell), (4, .long ((((((((((st9 * 31) + ((r_X5_kind cell S).toInt64)) * 31) + ((r_X5_of cell S).toInt64)) * 31) + ((0 : Int32).toInt64)) * 31) + ((r_X5_height cell S).toInt64)) * 31) + ((r_X5_digits cell S).toInt64)))] [.int (r_X5_upper cell S), .long (((((((((((st9 * 31) + ((r_X5_kind cell S).toInt64)) * 31) + ((r_X5_of cell S).toInt64)) * 31) + ((0 : Int32).toInt64)) * 31) + ((r_X5_height cell S).toInt64)) * 31) + ((r_X5_digits cell S).toInt64)) * 31)] _ _
        refine qq_i2l dX5_digestCell_128 ?_
        refine qq_ladd dX5_digestCell_129 ?_
        refine qq_lstore (loc' := [(0, .ref 80), (1, .long st9), (3, .int cell), (4, .long ((((((((((((st9 * 31) + ((r_X5_kind cell S).toInt64)) * 31) + ((r_X5_of cell S).toInt64)) * 31) + ((0 : Int32).toInt64)) * 31) + ((r_X5_height cell S).toInt64)) * 31) + ((r_X5_digits cell S).toInt64)) * 31) + ((r_X5_upper cell S).toInt64)))]) dX5_digestCell_130 [1, 2, 3, 0] (Nat.le_of_ble_eq_true rfl) rfl ?_
        refine qq_lload dX5_digestCell_132 3 rfl ?_
        refine qq_ldc2 (v := 31) dX5_digestCell_134 kl_X5_230 ?_
        refine qq_lmul dX5_digestCell_137 ?_
        refine qq_aload_n dX5_digestCell_138 rfl 0 rfl ?_
        refine qq_iload_n dX5_digestCell_139 rfl 2 rfl ?_
        refine qq_callV (bc := 0) (bs := 0) (mc := 0) (ms := 0) (o := 80) (ci := 2) (N := 6) (T := TX5) (as := [.int cell]) (rest := [.long (((((((((((((st9 * 31) + ((r_X5_kind cell S).toInt64)) * 31) + ((r_X5_of cell S).toInt64)) * 31) + ((0 : Int32).toInt64)) * 31) + ((r_X5_height cell S).toInt64)) * 31) + ((r_X5_digits cell S).toInt64)) * 31) + ((r_X5_upper cell S).toInt64)) * 31)]) dX5_digestCell_140 hS.2.2.1 (by decide) rfl (mo_X5_lower hp S hS cell (by first | assumption | exact ⟨by assumption, by assumption⟩ | exact qm_in8 (by assumption) (by assumption) | exact ⟨by assumption, qm_len (by assumption)⟩ | exact qm_in8d (by assumption) (by assumption) | decide) (by first | assumption | exact ⟨by assumption, by assumption⟩ | exact qm_in8 (by assumption) (by assumption) | exact ⟨by assumption, qm_len (by assumption)⟩ | exact qm_in8d (by assumption) (by assumption) | decide)) rfl kl_X5_267 kn_X5_lower ke_X5_lower ki_X5 kc_X5_lower kd_X5_lower rfl (by decide) (by decide) (Nat.le_of_ble_eq_true rfl) (fun v hp' hv _ _ => ?_) (fun E hp' zx _ _ => zx.elim)
        obtain ⟨rfl, rfl⟩ := hv
        show qq_Go _ hp 0 0 143 [(0, .ref 80), (1, .long st9), (3, .int cell), (4, .long ((((((((((((st9 * 31) + ((r_X5_kind cell S).toInt64)) * 31) + ((r_X5_of cell S).toInt64)) * 31) + ((0 : Int32).toInt64)) * 31) + ((r_X5_height cell S).toInt64)) * 31) + ((r_X5_digits cell S).toInt64)) * 31) + ((r_X5_upper cell S).toInt64)))] [.int (r_X5_lower cell S), .long (((((((((((((st9 * 31) + ((r_X5_kind cell S).toInt64)) * 31) + ((r_X5_of cell S).toInt64)) * 31) + ((0 : Int32).toInt64)) * 31) + ((r_X5_height cell S).toInt64)) * 31) + ((r_X5_digits cell S).toInt64)) * 31) + ((r_X5_upper cell S).toInt64)) * 31)] _ _
        refine qq_i2l dX5_digestCell_143 ?_
        refine qq_ladd dX5_digestCell_144 ?_
        refine qq_lstore (loc' := [(0, .ref 80), (1, .long st9), (3, .int cell), (4, .long ((((((((((((((st9 * 31) + ((r_X5_kind cell S).toInt64)) * 31) + ((r_X5_of cell S).toInt64)) * 31) + ((0 : Int32).toInt64)) * 31) + ((r_X5_height cell S).toInt64)) * 31) + ((r_X5_digits cell S).toInt64)) * 31) + ((r_X5_upper cell S).toInt64)) * 31) + ((r_X5_lower cell S).toInt64)))]) dX5_digestCell_145 [1, 2, 3, 0] (Nat.le_of_ble_eq_true rfl) rfl ?_
        refine qq_goto (tgt := 158) dX5_digestCell_147 (by decide) ?_
        refine qq_lload dX5_digestCell_158 3 rfl ?_
        refine qq_ldc2 (v := 31) dX5_digestCell_160 kl_X5_230 ?_
        refine qq_lmul dX5_digestCell_163 ?_
        refine qq_aload_n dX5_digestCell_164 rfl 0 rfl ?_
        refine qq_iload_n dX5_digestCell_165 rfl 2 rfl ?_
        refine qq_iconst (v := 0) dX5_digestCell_166 (by decide) ?_
        refine qq_callV (bc := 0) (bs := 0) (mc := 0) (ms := 0) (o := 80) (ci := 2) (N := 6) (T := TX5) (as := [.int cell, .int 0]) (rest := [.long (((((((((((((((st9 * 31) + ((r_X5_kind cell S).toInt64)) * 31) + ((r_X5_of cell S).toInt64)) * 31) + ((0 : Int32).toInt64)) * 31) + ((r_X5_height cell S).toInt64)) * 31) + ((r_X5_digits cell S).toInt64)) * 31) + ((r_X5_upper cell S).toInt64)) * 31) + ((r_X5_lower cell S).toInt64)) * 31)]) dX5_digestCell_167 hS.2.2.1 (by decide) rfl (mo_X5_find hp S hS cell (0 : Int32) (by first | assumption | exact ⟨by assumption, by assumption⟩ | exact qm_in8 (by assumption) (by assumption) | exact ⟨by assumption, qm_len (by assumption)⟩ | exact qm_in8d (by assumption) (by assumption) | decide)) rfl kl_X5_270 kn_X5_find ke_X5_find ki_X5 kc_X5_find kd_X5_find rfl (by decide) (by decide) (Nat.le_of_ble_eq_true rfl) (fun v hp' hv _ _ => ?_) (fun E hp' zx _ _ => zx.elim)
        obtain ⟨rfl, rfl⟩ := hv
        show qq_Go _ hp 0 0 170 [(0, .ref 80), (1, .long st9), (3, .int cell), (4, .long ((((((((((((((st9 * 31) + ((r_X5_kind cell S).toInt64)) * 31) + ((r_X5_of cell S).toInt64)) * 31) + ((0 : Int32).toInt64)) * 31) + ((r_X5_height cell S).toInt64)) * 31) + ((r_X5_digits cell S).toInt64)) * 31) + ((r_X5_upper cell S).toInt64)) * 31) + ((r_X5_lower cell S).toInt64)))] [.int (r_X5_find cell (0 : Int32) S), .long (((((((((((((((st9 * 31) + ((r_X5_kind cell S).toInt64)) * 31) + ((r_X5_of cell S).toInt64)) * 31) + ((0 : Int32).toInt64)) * 31) + ((r_X5_height cell S).toInt64)) * 31) + ((r_X5_digits cell S).toInt64)) * 31) + ((r_X5_upper cell S).toInt64)) * 31) + ((r_X5_lower cell S).toInt64)) * 31)] _ _
        refine qq_i2l dX5_digestCell_170 ?_
        refine qq_ladd dX5_digestCell_171 ?_
        refine qq_lstore (loc' := [(0, .ref 80), (1, .long st9), (3, .int cell), (4, .long ((((((((((((((((st9 * 31) + ((r_X5_kind cell S).toInt64)) * 31) + ((r_X5_of cell S).toInt64)) * 31) + ((0 : Int32).toInt64)) * 31) + ((r_X5_height cell S).toInt64)) * 31) + ((r_X5_digits cell S).toInt64)) * 31) + ((r_X5_upper cell S).toInt64)) * 31) + ((r_X5_lower cell S).toInt64)) * 31) + ((r_X5_find cell (0 : Int32) S).toInt64)))]) dX5_digestCell_172 [1, 2, 3, 0] (Nat.le_of_ble_eq_true rfl) rfl ?_
        refine qq_lload dX5_digestCell_174 3 rfl ?_
        refine qq_ldc2 (v := 31) dX5_digestCell_176 kl_X5_230 ?_
        refine qq_lmul dX5_digestCell_179 ?_
        refine qq_aload_n dX5_digestCell_180 rfl 0 rfl ?_
        refine qq_iload_n dX5_digestCell_181 rfl 2 rfl ?_
        refine qq_iconst (v := 1) dX5_digestCell_182 (by decide) ?_
        refine qq_callV (bc := 0) (bs := 0) (mc := 0) (ms := 0) (o := 80) (ci := 2) (N := 6) (T := TX5) (as := [.int cell, .int 1]) (rest := [.long (((((((((((((((((st9 * 31) + ((r_X5_kind cell S).toInt64)) * 31) + ((r_X5_of cell S).toInt64)) * 31) + ((0 : Int32).toInt64)) * 31) + ((r_X5_height cell S).toInt64)) * 31) + ((r_X5_digits cell S).toInt64)) * 31) + ((r_X5_upper cell S).toInt64)) * 31) + ((r_X5_lower cell S).toInt64)) * 31) + ((r_X5_find cell (0 : Int32) S).toInt64)) * 31)]) dX5_digestCell_183 hS.2.2.1 (by decide) rfl (mo_X5_find hp S hS cell (1 : Int32) (by first | assumption | exact ⟨by assumption, by assumption⟩ | exact qm_in8 (by assumption) (by assumption) | exact ⟨by assumption, qm_len (by assumption)⟩ | exact qm_in8d (by assumption) (by assumption) | decide)) rfl kl_X5_270 kn_X5_find ke_X5_find ki_X5 kc_X5_find kd_X5_find rfl (by decide) (by decide) (Nat.le_of_ble_eq_true rfl) (fun v hp' hv _ _ => ?_) (fun E hp' zx _ _ => zx.elim)
        obtain ⟨rfl, rfl⟩ := hv
        show qq_Go _ hp 0 0 186 [(0, .ref 80), (1, .long st9), (3, .int cell), (4, .long ((((((((((((((((st9 * 31) + ((r_X5_kind cell S).toInt64)) * 31) + ((r_X5_of cell S).toInt64)) * 31) + ((0 : Int32).toInt64)) * 31) + ((r_X5_height cell S).toInt64)) * 31) + ((r_X5_digits cell S).toInt64)) * 31) + ((r_X5_upper cell S).toInt64)) * 31) + ((r_X5_lower cell S).toInt64)) * 31) + ((r_X5_find cell (0 : Int32) S).toInt64)))] [.int (r_X5_find cell (1 : Int32) S), .long (((((((((((((((((st9 * 31) + ((r_X5_kind cell S).toInt64)) * 31) + ((r_X5_of cell S).toInt64)) * 31) + ((0 : Int32).toInt64)) * 31) + ((r_X5_height cell S).toInt64)) * 31) + ((r_X5_digits cell S).toInt64)) * 31) + ((r_X5_upper cell S).toInt64)) * 31) + ((r_X5_lower cell S).toInt64)) * 31) + ((r_X5_find cell (0 : Int32) S).toInt64)) * 31)] _ _
        refine qq_i2l dX5_digestCell_186 ?_
        refine qq_ladd dX5_digestCell_187 ?_
        refine qq_lstore (loc' := [(0, .ref 80), (1, .long st9), (3, .int cell), (4, .long ((((((((((((((((((st9 * 31) + ((r_X5_kind cell S).toInt64)) * 31) + ((r_X5_of cell S).toInt64)) * 31) + ((0 : Int32).toInt64)) * 31) + ((r_X5_height cell S).toInt64)) * 31) + ((r_X5_digits cell S).toInt64)) * 31) + ((r_X5_upper cell S).toInt64)) * 31) + ((r_X5_lower cell S).toInt64)) * 31) + ((r_X5_find cell (0 : Int32) S).toInt64)) * 31) + ((r_X5_find cell (1 : Int32) S).toInt64)))]) dX5_digestCell_188 [1, 2, 3, 0] (Nat.le_of_ble_eq_true rfl) rfl ?_
        refine qq_lload dX5_digestCell_190 3 rfl ?_
        refine qq_ldc2 (v := 31) dX5_digestCell_192 kl_X5_230 ?_
        refine qq_lmul dX5_digestCell_195 ?_
        refine qq_aload_n dX5_digestCell_196 rfl 0 rfl ?_
        refine qq_iload_n dX5_digestCell_197 rfl 2 rfl ?_
        refine qq_callV (bc := 0) (bs := 0) (mc := 0) (ms := 0) (o := 80) (ci := 2) (N := 6) (T := TX5) (as := [.int cell]) (rest := [.long (((((((((((((((((((st9 * 31) + ((r_X5_kind cell S).toInt64)) * 31) + ((r_X5_of cell S).toInt64)) * 31) + ((0 : Int32).toInt64)) * 31) + ((r_X5_height cell S).toInt64)) * 31) + ((r_X5_digits cell S).toInt64)) * 31) + ((r_X5_upper cell S).toInt64)) * 31) + ((r_X5_lower cell S).toInt64)) * 31) + ((r_X5_find cell (0 : Int32) S).toInt64)) * 31) + ((r_X5_find cell (1 : Int32) S).toInt64)) * 31)]) dX5_digestCell_198 hS.2.2.1 (by decide) rfl (mo_X5_rank hp S hS cell (by first | assumption | exact ⟨by assumption, by assumption⟩ | exact qm_in8 (by assumption) (by assumption) | exact ⟨by assumption, qm_len (by assumption)⟩ | exact qm_in8d (by assumption) (by assumption) | decide)) rfl kl_X5_274 kn_X5_rank ke_X5_rank ki_X5 kc_X5_rank kd_X5_rank rfl (by decide) (by decide) (Nat.le_of_ble_eq_true rfl) (fun v hp' hv _ _ => ?_) (fun E hp' zx _ _ => zx.elim)
        obtain ⟨rfl, rfl⟩ := hv
        show qq_Go _ hp 0 0 201 [(0, .ref 80), (1, .long st9), (3, .int cell), (4, .long ((((((((((((((((((st9 * 31) + ((r_X5_kind cell S).toInt64)) * 31) + ((r_X5_of cell S).toInt64)) * 31) + ((0 : Int32).toInt64)) * 31) + ((r_X5_height cell S).toInt64)) * 31) + ((r_X5_digits cell S).toInt64)) * 31) + ((r_X5_upper cell S).toInt64)) * 31) + ((r_X5_lower cell S).toInt64)) * 31) + ((r_X5_find cell (0 : Int32) S).toInt64)) * 31) + ((r_X5_find cell (1 : Int32) S).toInt64)))] [.int (r_X5_rank cell S), .long (((((((((((((((((((st9 * 31) + ((r_X5_kind cell S).toInt64)) * 31) + ((r_X5_of cell S).toInt64)) * 31) + ((0 : Int32).toInt64)) * 31) + ((r_X5_height cell S).toInt64)) * 31) + ((r_X5_digits cell S).toInt64)) * 31) + ((r_X5_upper cell S).toInt64)) * 31) + ((r_X5_lower cell S).toInt64)) * 31) + ((r_X5_find cell (0 : Int32) S).toInt64)) * 31) + ((r_X5_find cell (1 : Int32) S).toInt64)) * 31)] _ _
        refine qq_i2l dX5_digestCell_201 ?_
        refine qq_ladd dX5_digestCell_202 ?_
        refine qq_lstore (loc' := [(0, .ref 80), (1, .long st9), (3, .int cell), (4, .long ((((((((((((((((((((st9 * 31) + ((r_X5_kind cell S).toInt64)) * 31) + ((r_X5_of cell S).toInt64)) * 31) + ((0 : Int32).toInt64)) * 31) + ((r_X5_height cell S).toInt64)) * 31) + ((r_X5_digits cell S).toInt64)) * 31) + ((r_X5_upper cell S).toInt64)) * 31) + ((r_X5_lower cell S).toInt64)) * 31) + ((r_X5_find cell (0 : Int32) S).toInt64)) * 31) + ((r_X5_find cell (1 : Int32) S).toInt64)) * 31) + ((r_X5_rank cell S).toInt64)))]) dX5_digestCell_203 [1, 2, 3, 0] (Nat.le_of_ble_eq_true rfl) rfl ?_
        refine qq_iconst (v := 0) dX5_digestCell_205 (by decide) ?_
        refine qq_istore (loc' := [(0, .ref 80), (1, .long st9), (3, .int cell), (4, .long ((((((((((((((((((((st9 * 31) + ((r_X5_kind cell S).toInt64)) * 31) + ((r_X5_of cell S).toInt64)) * 31) + ((0 : Int32).toInt64)) * 31) + ((r_X5_height cell S).toInt64)) * 31) + ((r_X5_digits cell S).toInt64)) * 31) + ((r_X5_upper cell S).toInt64)) * 31) + ((r_X5_lower cell S).toInt64)) * 31) + ((r_X5_find cell (0 : Int32) S).toInt64)) * 31) + ((r_X5_find cell (1 : Int32) S).toInt64)) * 31) + ((r_X5_rank cell S).toInt64))), (6, .int 0)]) dX5_digestCell_206 [1, 2, 3, 4, 0] (Nat.le_of_ble_eq_true rfl) rfl ?_
        have ze : r_X5_digestCell st9 cell S = lr_X5_digestCell_208 st9 cell 5 ((((((((((((((((((((st9 * 31) + ((r_X5_kind cell S).toInt64)) * 31) + ((r_X5_of cell S).toInt64)) * 31) + ((0 : Int32).toInt64)) * 31) + ((r_X5_height cell S).toInt64)) * 31) + ((r_X5_digits cell S).toInt64)) * 31) + ((r_X5_upper cell S).toInt64)) * 31) + ((r_X5_lower cell S).toInt64)) * 31) + ((r_X5_find cell (0 : Int32) S).toInt64)) * 31) + ((r_X5_find cell (1 : Int32) S).toInt64)) * 31) + ((r_X5_rank cell S).toInt64)) (0 : Int32) S := by
          rw [r_X5_digestCell, if_pos zc1, if_neg zc2, if_neg zc4]
        rw [ze]
        exact lq_X5_digestCell_208 st9 cell zv0 5 ((((((((((((((((((((st9 * 31) + ((r_X5_kind cell S).toInt64)) * 31) + ((r_X5_of cell S).toInt64)) * 31) + ((0 : Int32).toInt64)) * 31) + ((r_X5_height cell S).toInt64)) * 31) + ((r_X5_digits cell S).toInt64)) * 31) + ((r_X5_upper cell S).toInt64)) * 31) + ((r_X5_lower cell S).toInt64)) * 31) + ((r_X5_find cell (0 : Int32) S).toInt64)) * 31) + ((r_X5_find cell (1 : Int32) S).toInt64)) * 31) + ((r_X5_rank cell S).toInt64)) (0 : Int32) hp S hS (by decide) (by decide)
  · refine qq_iconst (v := 1) dX5_digestCell_43 (by decide) ?_
    refine qq_goto (tgt := 48) dX5_digestCell_44 (by decide) ?_
    refine qq_i2l dX5_digestCell_48 ?_
    refine qq_ladd dX5_digestCell_49 ?_
    refine qq_lstore (loc' := [(0, .ref 80), (1, .long st9), (3, .int cell), (4, .long ((((((st9 * 31) + ((r_X5_kind cell S).toInt64)) * 31) + ((r_X5_of cell S).toInt64)) * 31) + ((1 : Int32).toInt64)))]) dX5_digestCell_50 [1, 2, 3, 0] (Nat.le_of_ble_eq_true rfl) rfl ?_
    refine qq_aload_n dX5_digestCell_52 rfl 0 rfl ?_
    refine cx_get hS dX5_digestCell_53 0 (by decide) rfl kl_X5_9 ?_
    refine qq_iload_n dX5_digestCell_56 rfl 2 rfl ?_
    refine qq_iald dX5_digestCell_57 hS.2.2.2.1 (by first | assumption | exact qm_in8 (by assumption) (by assumption) | exact qm_in8d (by assumption) (by assumption) | decide) ?_
    refine qq_callS (bc := 0) (bs := 0) (mc := 0) (ms := 0) (as := [.int (S.1 cell.toNatClampNeg)]) (rest := []) dX5_digestCell_58 (mt_X2_hasHeight hp (S.1 cell.toNatClampNeg)) rfl kl_X5_252 ks_X2_hasHeight ki_X2 kc_X2_hasHeight kd_X2_hasHeight rfl (by decide) (by decide) (Nat.le_of_ble_eq_true rfl) (fun v hp' hv _ _ => ?_) (fun E hp' zx _ _ => zx.elim)
    obtain ⟨rfl, rfl⟩ := hv
    show qq_Go _ hp 0 0 61 [(0, .ref 80), (1, .long st9), (3, .int cell), (4, .long ((((((st9 * 31) + ((r_X5_kind cell S).toInt64)) * 31) + ((r_X5_of cell S).toInt64)) * 31) + ((1 : Int32).toInt64)))] [.int (f_X2_hasHeight (S.1 cell.toNatClampNeg))] _ _
    refine qq_if_eq (tgt := 97) dX5_digestCell_61 (by decide) (fun zc5 => ?_) (fun zc5 => ?_)
    · refine qq_lload dX5_digestCell_97 3 rfl ?_
      refine qq_ldc2 (v := 31) dX5_digestCell_99 kl_X5_230 ?_
      refine qq_lmul dX5_digestCell_102 ?_
      refine qq_lstore (loc' := [(0, .ref 80), (1, .long st9), (3, .int cell), (4, .long (((((((st9 * 31) + ((r_X5_kind cell S).toInt64)) * 31) + ((r_X5_of cell S).toInt64)) * 31) + ((1 : Int32).toInt64)) * 31))]) dX5_digestCell_103 [1, 2, 3, 0] (Nat.le_of_ble_eq_true rfl) rfl ?_
      refine qq_aload_n dX5_digestCell_105 rfl 0 rfl ?_
      refine cx_get hS dX5_digestCell_106 0 (by decide) rfl kl_X5_9 ?_
      refine qq_iload_n dX5_digestCell_109 rfl 2 rfl ?_
      refine qq_iald dX5_digestCell_110 hS.2.2.2.1 (by first | assumption | exact qm_in8 (by assumption) (by assumption) | exact qm_in8d (by assumption) (by assumption) | decide) ?_
      refine qq_callS (bc := 0) (bs := 0) (mc := 0) (ms := 0) (as := [.int (S.1 cell.toNatClampNeg)]) (rest := []) dX5_digestCell_111 (mt_X2_hasToldDigits hp (S.1 cell.toNatClampNeg)) rfl kl_X5_261 ks_X2_hasToldDigits ki_X2 kc_X2_hasToldDigits kd_X2_hasToldDigits rfl (by decide) (by decide) (Nat.le_of_ble_eq_true rfl) (fun v hp' hv _ _ => ?_) (fun E hp' zx _ _ => zx.elim)
      obtain ⟨rfl, rfl⟩ := hv
      show qq_Go _ hp 0 0 114 [(0, .ref 80), (1, .long st9), (3, .int cell), (4, .long (((((((st9 * 31) + ((r_X5_kind cell S).toInt64)) * 31) + ((r_X5_of cell S).toInt64)) * 31) + ((1 : Int32).toInt64)) * 31))] [.int (f_X2_hasToldDigits (S.1 cell.toNatClampNeg))] _ _
      refine qq_if_eq (tgt := 150) dX5_digestCell_114 (by decide) (fun zc6 => ?_) (fun zc6 => ?_)
      · refine qq_lload dX5_digestCell_150 3 rfl ?_
        refine qq_ldc2 (v := 31) dX5_digestCell_152 kl_X5_230 ?_
        refine qq_lmul dX5_digestCell_155 ?_
        refine qq_lstore (loc' := [(0, .ref 80), (1, .long st9), (3, .int cell), (4, .long ((((((((st9 * 31) + ((r_X5_kind cell S).toInt64)) * 31) + ((r_X5_of cell S).toInt64)) * 31) + ((1 : Int32).toInt64)) * 31) * 31))]) dX5_digestCell_156 [1, 2, 3, 0] (Nat.le_of_ble_eq_true rfl) rfl ?_
        refine qq_lload dX5_digestCell_158 3 rfl ?_
        refine qq_ldc2 (v := 31) dX5_digestCell_160 kl_X5_230 ?_
        refine qq_lmul dX5_digestCell_163 ?_
        refine qq_aload_n dX5_digestCell_164 rfl 0 rfl ?_
        refine qq_iload_n dX5_digestCell_165 rfl 2 rfl ?_
        refine qq_iconst (v := 0) dX5_digestCell_166 (by decide) ?_
        refine qq_callV (bc := 0) (bs := 0) (mc := 0) (ms := 0) (o := 80) (ci := 2) (N := 6) (T := TX5) (as := [.int cell, .int 0]) (rest := [.long (((((((((st9 * 31) + ((r_X5_kind cell S).toInt64)) * 31) + ((r_X5_of cell S).toInt64)) * 31) + ((1 : Int32).toInt64)) * 31) * 31) * 31)]) dX5_digestCell_167 hS.2.2.1 (by decide) rfl (mo_X5_find hp S hS cell (0 : Int32) (by first | assumption | exact ⟨by assumption, by assumption⟩ | exact qm_in8 (by assumption) (by assumption) | exact ⟨by assumption, qm_len (by assumption)⟩ | exact qm_in8d (by assumption) (by assumption) | decide)) rfl kl_X5_270 kn_X5_find ke_X5_find ki_X5 kc_X5_find kd_X5_find rfl (by decide) (by decide) (Nat.le_of_ble_eq_true rfl) (fun v hp' hv _ _ => ?_) (fun E hp' zx _ _ => zx.elim)
        obtain ⟨rfl, rfl⟩ := hv
        show qq_Go _ hp 0 0 170 [(0, .ref 80), (1, .long st9), (3, .int cell), (4, .long ((((((((st9 * 31) + ((r_X5_kind cell S).toInt64)) * 31) + ((r_X5_of cell S).toInt64)) * 31) + ((1 : Int32).toInt64)) * 31) * 31))] [.int (r_X5_find cell (0 : Int32) S), .long (((((((((st9 * 31) + ((r_X5_kind cell S).toInt64)) * 31) + ((r_X5_of cell S).toInt64)) * 31) + ((1 : Int32).toInt64)) * 31) * 31) * 31)] _ _
        refine qq_i2l dX5_digestCell_170 ?_
        refine qq_ladd dX5_digestCell_171 ?_
        refine qq_lstore (loc' := [(0, .ref 80), (1, .long st9), (3, .int cell), (4, .long ((((((((((st9 * 31) + ((r_X5_kind cell S).toInt64)) * 31) + ((r_X5_of cell S).toInt64)) * 31) + ((1 : Int32).toInt64)) * 31) * 31) * 31) + ((r_X5_find cell (0 : Int32) S).toInt64)))]) dX5_digestCell_172 [1, 2, 3, 0] (Nat.le_of_ble_eq_true rfl) rfl ?_
        refine qq_lload dX5_digestCell_174 3 rfl ?_
        refine qq_ldc2 (v := 31) dX5_digestCell_176 kl_X5_230 ?_
        refine qq_lmul dX5_digestCell_179 ?_
        refine qq_aload_n dX5_digestCell_180 rfl 0 rfl ?_
        refine qq_iload_n dX5_digestCell_181 rfl 2 rfl ?_
        refine qq_iconst (v := 1) dX5_digestCell_182 (by decide) ?_
        refine qq_callV (bc := 0) (bs := 0) (mc := 0) (ms := 0) (o := 80) (ci := 2) (N := 6) (T := TX5) (as := [.int cell, .int 1]) (rest := [.long (((((((((((st9 * 31) + ((r_X5_kind cell S).toInt64)) * 31) + ((r_X5_of cell S).toInt64)) * 31) + ((1 : Int32).toInt64)) * 31) * 31) * 31) + ((r_X5_find cell (0 : Int32) S).toInt64)) * 31)]) dX5_digestCell_183 hS.2.2.1 (by decide) rfl (mo_X5_find hp S hS cell (1 : Int32) (by first | assumption | exact ⟨by assumption, by assumption⟩ | exact qm_in8 (by assumption) (by assumption) | exact ⟨by assumption, qm_len (by assumption)⟩ | exact qm_in8d (by assumption) (by assumption) | decide)) rfl kl_X5_270 kn_X5_find ke_X5_find ki_X5 kc_X5_find kd_X5_find rfl (by decide) (by decide) (Nat.le_of_ble_eq_true rfl) (fun v hp' hv _ _ => ?_) (fun E hp' zx _ _ => zx.elim)
        obtain ⟨rfl, rfl⟩ := hv
        show qq_Go _ hp 0 0 186 [(0, .ref 80), (1, .long st9), (3, .int cell), (4, .long ((((((((((st9 * 31) + ((r_X5_kind cell S).toInt64)) * 31) + ((r_X5_of cell S).toInt64)) * 31) + ((1 : Int32).toInt64)) * 31) * 31) * 31) + ((r_X5_find cell (0 : Int32) S).toInt64)))] [.int (r_X5_find cell (1 : Int32) S), .long (((((((((((st9 * 31) + ((r_X5_kind cell S).toInt64)) * 31) + ((r_X5_of cell S).toInt64)) * 31) + ((1 : Int32).toInt64)) * 31) * 31) * 31) + ((r_X5_find cell (0 : Int32) S).toInt64)) * 31)] _ _
        refine qq_i2l dX5_digestCell_186 ?_
        refine qq_ladd dX5_digestCell_187 ?_
        refine qq_lstore (loc' := [(0, .ref 80), (1, .long st9), (3, .int cell), (4, .long ((((((((((((st9 * 31) + ((r_X5_kind cell S).toInt64)) * 31) + ((r_X5_of cell S).toInt64)) * 31) + ((1 : Int32).toInt64)) * 31) * 31) * 31) + ((r_X5_find cell (0 : Int32) S).toInt64)) * 31) + ((r_X5_find cell (1 : Int32) S).toInt64)))]) dX5_digestCell_188 [1, 2, 3, 0] (Nat.le_of_ble_eq_true rfl) rfl ?_
        refine qq_lload dX5_digestCell_190 3 rfl ?_
        refine qq_ldc2 (v := 31) dX5_digestCell_192 kl_X5_230 ?_
        refine qq_lmul dX5_digestCell_195 ?_
        refine qq_aload_n dX5_digestCell_196 rfl 0 rfl ?_
        refine qq_iload_n dX5_digestCell_197 rfl 2 rfl ?_
        refine qq_callV (bc := 0) (bs := 0) (mc := 0) (ms := 0) (o := 80) (ci := 2) (N := 6) (T := TX5) (as := [.int cell]) (rest := [.long (((((((((((((st9 * 31) + ((r_X5_kind cell S).toInt64)) * 31) + ((r_X5_of cell S).toInt64)) * 31) + ((1 : Int32).toInt64)) * 31) * 31) * 31) + ((r_X5_find cell (0 : Int32) S).toInt64)) * 31) + ((r_X5_find cell (1 : Int32) S).toInt64)) * 31)]) dX5_digestCell_198 hS.2.2.1 (by decide) rfl (mo_X5_rank hp S hS cell (by first | assumption | exact ⟨by assumption, by assumption⟩ | exact qm_in8 (by assumption) (by assumption) | exact ⟨by assumption, qm_len (by assumption)⟩ | exact qm_in8d (by assumption) (by assumption) | decide)) rfl kl_X5_274 kn_X5_rank ke_X5_rank ki_X5 kc_X5_rank kd_X5_rank rfl (by decide) (by decide) (Nat.le_of_ble_eq_true rfl) (fun v hp' hv _ _ => ?_) (fun E hp' zx _ _ => zx.elim)
        obtain ⟨rfl, rfl⟩ := hv
        show qq_Go _ hp 0 0 201 [(0, .ref 80), (1, .long st9), (3, .int cell), (4, .long ((((((((((((st9 * 31) + ((r_X5_kind cell S).toInt64)) * 31) + ((r_X5_of cell S).toInt64)) * 31) + ((1 : Int32).toInt64)) * 31) * 31) * 31) + ((r_X5_find cell (0 : Int32) S).toInt64)) * 31) + ((r_X5_find cell (1 : Int32) S).toInt64)))] [.int (r_X5_rank cell S), .long (((((((((((((st9 * 31) + ((r_X5_kind cell S).toInt64)) * 31) + ((r_X5_of cell S).toInt64)) * 31) + ((1 : Int32).toInt64)) * 31) * 31) * 31) + ((r_X5_find cell (0 : Int32) S).toInt64)) * 31) + ((r_X5_find cell (1 : Int32) S).toInt64)) * 31)] _ _
        refine qq_i2l dX5_digestCell_201 ?_
        refine qq_ladd dX5_digestCell_202 ?_
        refine qq_lstore (loc' := [(0, .ref 80), (1, .long st9), (3, .int cell), (4, .long ((((((((((((((st9 * 31) + ((r_X5_kind cell S).toInt64)) * 31) + ((r_X5_of cell S).toInt64)) * 31) + ((1 : Int32).toInt64)) * 31) * 31) * 31) + ((r_X5_find cell (0 : Int32) S).toInt64)) * 31) + ((r_X5_find cell (1 : Int32) S).toInt64)) * 31) + ((r_X5_rank cell S).toInt64)))]) dX5_digestCell_203 [1, 2, 3, 0] (Nat.le_of_ble_eq_true rfl) rfl ?_
        refine qq_iconst (v := 0) dX5_digestCell_205 (by decide) ?_
        refine qq_istore (loc' := [(0, .ref 80), (1, .long st9), (3, .int cell), (4, .long ((((((((((((((st9 * 31) + ((r_X5_kind cell S).toInt64)) * 31) + ((r_X5_of cell S).toInt64)) * 31) + ((1 : Int32).toInt64)) * 31) * 31) * 31) + ((r_X5_find cell (0 : Int32) S).toInt64)) * 31) + ((r_X5_find cell (1 : Int32) S).toInt64)) * 31) + ((r_X5_rank cell S).toInt64))), (6, .int 0)]) dX5_digestCell_206 [1, 2, 3, 4, 0] (Nat.le_of_ble_eq_true rfl) rfl ?_
        have ze : r_X5_digestCell st9 cell S = lr_X5_digestCell_208 st9 cell 5 ((((((((((((((st9 * 31) + ((r_X5_kind cell S).toInt64)) * 31) + ((r_X5_of cell S).toInt64)) * 31) + ((1 : Int32).toInt64)) * 31) * 31) * 31) + ((r_X5_find cell (0 : Int32) S).toInt64)) * 31) + ((r_X5_find cell (1 : Int32) S).toInt64)) * 31) + ((r_X5_rank cell S).toInt64)) (0 : Int32) S := by
          rw [r_X5_digestCell, if_neg zc1, if_pos zc5, if_pos zc6]
        rw [ze]
        exact lq_X5_digestCell_208 st9 cell zv0 5 ((((((((((((((st9 * 31) + ((r_X5_kind cell S).toInt64)) * 31) + ((r_X5_of cell S).toInt64)) * 31) + ((1 : Int32).toInt64)) * 31) * 31) * 31) + ((r_X5_find cell (0 : Int32) S).toInt64)) * 31) + ((r_X5_find cell (1 : Int32) S).toInt64)) * 31) + ((r_X5_rank cell S).toInt64)) (0 : Int32) hp S hS (by decide) (by decide)
      · refine qq_lload dX5_digestCell_117 3 rfl ?_
        refine qq_ldc2 (v := 31) dX5_digestCell_119 kl_X5_230 ?_
        refine qq_lmul dX5_digestCell_122 ?_
        refine qq_aload_n dX5_digestCell_123 rfl 0 rfl ?_
        refine qq_iload_n dX5_digestCell_124 rfl 2 rfl ?_
        refine qq_callV (bc := 0) (bs := 0) (mc := 0) (ms := 0) (o := 80) (ci := 2) (N := 6) (T := TX5) (as := [.int cell]) (rest := [.long ((((((((st9 * 31) + ((r_X5_kind cell S).toInt64)) * 31) + ((r_X5_of cell S).toInt64)) * 31) + ((1 : Int32).toInt64)) * 31) * 31)]) dX5_digestCell_125 hS.2.2.1 (by decide) rfl (mo_X5_upper hp S hS cell (by first | assumption | exact ⟨by assumption, by assumption⟩ | exact qm_in8 (by assumption) (by assumption) | exact ⟨by assumption, qm_len (by assumption)⟩ | exact qm_in8d (by assumption) (by assumption) | decide) (by first | assumption | exact ⟨by assumption, by assumption⟩ | exact qm_in8 (by assumption) (by assumption) | exact ⟨by assumption, qm_len (by assumption)⟩ | exact qm_in8d (by assumption) (by assumption) | decide)) rfl kl_X5_264 kn_X5_upper ke_X5_upper ki_X5 kc_X5_upper kd_X5_upper rfl (by decide) (by decide) (Nat.le_of_ble_eq_true rfl) (fun v hp' hv _ _ => ?_) (fun E hp' zx _ _ => zx.elim)
        obtain ⟨rfl, rfl⟩ := hv
        show qq_Go _ hp 0 0 128 [(0, .ref 80), (1, .long st9), (3, .int cell), (4, .long (((((((st9 * 31) + ((r_X5_kind cell S).toInt64)) * 31) + ((r_X5_of cell S).toInt64)) * 31) + ((1 : Int32).toInt64)) * 31))] [.int (r_X5_upper cell S), .long ((((((((st9 * 31) + ((r_X5_kind cell S).toInt64)) * 31) + ((r_X5_of cell S).toInt64)) * 31) + ((1 : Int32).toInt64)) * 31) * 31)] _ _
        refine qq_i2l dX5_digestCell_128 ?_
        refine qq_ladd dX5_digestCell_129 ?_
        refine qq_lstore (loc' := [(0, .ref 80), (1, .long st9), (3, .int cell), (4, .long (((((((((st9 * 31) + ((r_X5_kind cell S).toInt64)) * 31) + ((r_X5_of cell S).toInt64)) * 31) + ((1 : Int32).toInt64)) * 31) * 31) + ((r_X5_upper cell S).toInt64)))]) dX5_digestCell_130 [1, 2, 3, 0] (Nat.le_of_ble_eq_true rfl) rfl ?_
        refine qq_lload dX5_digestCell_132 3 rfl ?_
        refine qq_ldc2 (v := 31) dX5_digestCell_134 kl_X5_230 ?_
        refine qq_lmul dX5_digestCell_137 ?_
        refine qq_aload_n dX5_digestCell_138 rfl 0 rfl ?_
        refine qq_iload_n dX5_digestCell_139 rfl 2 rfl ?_
        refine qq_callV (bc := 0) (bs := 0) (mc := 0) (ms := 0) (o := 80) (ci := 2) (N := 6) (T := TX5) (as := [.int cell]) (rest := [.long ((((((((((st9 * 31) + ((r_X5_kind cell S).toInt64)) * 31) + ((r_X5_of cell S).toInt64)) * 31) + ((1 : Int32).toInt64)) * 31) * 31) + ((r_X5_upper cell S).toInt64)) * 31)]) dX5_digestCell_140 hS.2.2.1 (by decide) rfl (mo_X5_lower hp S hS cell (by first | assumption | exact ⟨by assumption, by assumption⟩ | exact qm_in8 (by assumption) (by assumption) | exact ⟨by assumption, qm_len (by assumption)⟩ | exact qm_in8d (by assumption) (by assumption) | decide) (by first | assumption | exact ⟨by assumption, by assumption⟩ | exact qm_in8 (by assumption) (by assumption) | exact ⟨by assumption, qm_len (by assumption)⟩ | exact qm_in8d (by assumption) (by assumption) | decide)) rfl kl_X5_267 kn_X5_lower ke_X5_lower ki_X5 kc_X5_lower kd_X5_lower rfl (by decide) (by decide) (Nat.le_of_ble_eq_true rfl) (fun v hp' hv _ _ => ?_) (fun E hp' zx _ _ => zx.elim)
        obtain ⟨rfl, rfl⟩ := hv
        show qq_Go _ hp 0 0 143 [(0, .ref 80), (1, .long st9), (3, .int cell), (4, .long (((((((((st9 * 31) + ((r_X5_kind cell S).toInt64)) * 31) + ((r_X5_of cell S).toInt64)) * 31) + ((1 : Int32).toInt64)) * 31) * 31) + ((r_X5_upper cell S).toInt64)))] [.int (r_X5_lower cell S), .long ((((((((((st9 * 31) + ((r_X5_kind cell S).toInt64)) * 31) + ((r_X5_of cell S).toInt64)) * 31) + ((1 : Int32).toInt64)) * 31) * 31) + ((r_X5_upper cell S).toInt64)) * 31)] _ _
        refine qq_i2l dX5_digestCell_143 ?_
        refine qq_ladd dX5_digestCell_144 ?_
        refine qq_lstore (loc' := [(0, .ref 80), (1, .long st9), (3, .int cell), (4, .long (((((((((((st9 * 31) + ((r_X5_kind cell S).toInt64)) * 31) + ((r_X5_of cell S).toInt64)) * 31) + ((1 : Int32).toInt64)) * 31) * 31) + ((r_X5_upper cell S).toInt64)) * 31) + ((r_X5_lower cell S).toInt64)))]) dX5_digestCell_145 [1, 2, 3, 0] (Nat.le_of_ble_eq_true rfl) rfl ?_
        refine qq_goto (tgt := 158) dX5_digestCell_147 (by decide) ?_
        refine qq_lload dX5_digestCell_158 3 rfl ?_
        refine qq_ldc2 (v := 31) dX5_digestCell_160 kl_X5_230 ?_
        refine qq_lmul dX5_digestCell_163 ?_
        refine qq_aload_n dX5_digestCell_164 rfl 0 rfl ?_
        refine qq_iload_n dX5_digestCell_165 rfl 2 rfl ?_
        refine qq_iconst (v := 0) dX5_digestCell_166 (by decide) ?_
        refine qq_callV (bc := 0) (bs := 0) (mc := 0) (ms := 0) (o := 80) (ci := 2) (N := 6) (T := TX5) (as := [.int cell, .int 0]) (rest := [.long ((((((((((((st9 * 31) + ((r_X5_kind cell S).toInt64)) * 31) + ((r_X5_of cell S).toInt64)) * 31) + ((1 : Int32).toInt64)) * 31) * 31) + ((r_X5_upper cell S).toInt64)) * 31) + ((r_X5_lower cell S).toInt64)) * 31)]) dX5_digestCell_167 hS.2.2.1 (by decide) rfl (mo_X5_find hp S hS cell (0 : Int32) (by first | assumption | exact ⟨by assumption, by assumption⟩ | exact qm_in8 (by assumption) (by assumption) | exact ⟨by assumption, qm_len (by assumption)⟩ | exact qm_in8d (by assumption) (by assumption) | decide)) rfl kl_X5_270 kn_X5_find ke_X5_find ki_X5 kc_X5_find kd_X5_find rfl (by decide) (by decide) (Nat.le_of_ble_eq_true rfl) (fun v hp' hv _ _ => ?_) (fun E hp' zx _ _ => zx.elim)
        obtain ⟨rfl, rfl⟩ := hv
        show qq_Go _ hp 0 0 170 [(0, .ref 80), (1, .long st9), (3, .int cell), (4, .long (((((((((((st9 * 31) + ((r_X5_kind cell S).toInt64)) * 31) + ((r_X5_of cell S).toInt64)) * 31) + ((1 : Int32).toInt64)) * 31) * 31) + ((r_X5_upper cell S).toInt64)) * 31) + ((r_X5_lower cell S).toInt64)))] [.int (r_X5_find cell (0 : Int32) S), .long ((((((((((((st9 * 31) + ((r_X5_kind cell S).toInt64)) * 31) + ((r_X5_of cell S).toInt64)) * 31) + ((1 : Int32).toInt64)) * 31) * 31) + ((r_X5_upper cell S).toInt64)) * 31) + ((r_X5_lower cell S).toInt64)) * 31)] _ _
        refine qq_i2l dX5_digestCell_170 ?_
        refine qq_ladd dX5_digestCell_171 ?_
        refine qq_lstore (loc' := [(0, .ref 80), (1, .long st9), (3, .int cell), (4, .long (((((((((((((st9 * 31) + ((r_X5_kind cell S).toInt64)) * 31) + ((r_X5_of cell S).toInt64)) * 31) + ((1 : Int32).toInt64)) * 31) * 31) + ((r_X5_upper cell S).toInt64)) * 31) + ((r_X5_lower cell S).toInt64)) * 31) + ((r_X5_find cell (0 : Int32) S).toInt64)))]) dX5_digestCell_172 [1, 2, 3, 0] (Nat.le_of_ble_eq_true rfl) rfl ?_
        refine qq_lload dX5_digestCell_174 3 rfl ?_
        refine qq_ldc2 (v := 31) dX5_digestCell_176 kl_X5_230 ?_
        refine qq_lmul dX5_digestCell_179 ?_
        refine qq_aload_n dX5_digestCell_180 rfl 0 rfl ?_
        refine qq_iload_n dX5_digestCell_181 rfl 2 rfl ?_
        refine qq_iconst (v := 1) dX5_digestCell_182 (by decide) ?_
        refine qq_callV (bc := 0) (bs := 0) (mc := 0) (ms := 0) (o := 80) (ci := 2) (N := 6) (T := TX5) (as := [.int cell, .int 1]) (rest := [.long ((((((((((((((st9 * 31) + ((r_X5_kind cell S).toInt64)) * 31) + ((r_X5_of cell S).toInt64)) * 31) + ((1 : Int32).toInt64)) * 31) * 31) + ((r_X5_upper cell S).toInt64)) * 31) + ((r_X5_lower cell S).toInt64)) * 31) + ((r_X5_find cell (0 : Int32) S).toInt64)) * 31)]) dX5_digestCell_183 hS.2.2.1 (by decide) rfl (mo_X5_find hp S hS cell (1 : Int32) (by first | assumption | exact ⟨by assumption, by assumption⟩ | exact qm_in8 (by assumption) (by assumption) | exact ⟨by assumption, qm_len (by assumption)⟩ | exact qm_in8d (by assumption) (by assumption) | decide)) rfl kl_X5_270 kn_X5_find ke_X5_find ki_X5 kc_X5_find kd_X5_find rfl (by decide) (by decide) (Nat.le_of_ble_eq_true rfl) (fun v hp' hv _ _ => ?_) (fun E hp' zx _ _ => zx.elim)
        obtain ⟨rfl, rfl⟩ := hv
        show qq_Go _ hp 0 0 186 [(0, .ref 80), (1, .long st9), (3, .int cell), (4, .long (((((((((((((st9 * 31) + ((r_X5_kind cell S).toInt64)) * 31) + ((r_X5_of cell S).toInt64)) * 31) + ((1 : Int32).toInt64)) * 31) * 31) + ((r_X5_upper cell S).toInt64)) * 31) + ((r_X5_lower cell S).toInt64)) * 31) + ((r_X5_find cell (0 : Int32) S).toInt64)))] [.int (r_X5_find cell (1 : Int32) S), .long ((((((((((((((st9 * 31) + ((r_X5_kind cell S).toInt64)) * 31) + ((r_X5_of cell S).toInt64)) * 31) + ((1 : Int32).toInt64)) * 31) * 31) + ((r_X5_upper cell S).toInt64)) * 31) + ((r_X5_lower cell S).toInt64)) * 31) + ((r_X5_find cell (0 : Int32) S).toInt64)) * 31)] _ _
        refine qq_i2l dX5_digestCell_186 ?_
        refine qq_ladd dX5_digestCell_187 ?_
        refine qq_lstore (loc' := [(0, .ref 80), (1, .long st9), (3, .int cell), (4, .long (((((((((((((((st9 * 31) + ((r_X5_kind cell S).toInt64)) * 31) + ((r_X5_of cell S).toInt64)) * 31) + ((1 : Int32).toInt64)) * 31) * 31) + ((r_X5_upper cell S).toInt64)) * 31) + ((r_X5_lower cell S).toInt64)) * 31) + ((r_X5_find cell (0 : Int32) S).toInt64)) * 31) + ((r_X5_find cell (1 : Int32) S).toInt64)))]) dX5_digestCell_188 [1, 2, 3, 0] (Nat.le_of_ble_eq_true rfl) rfl ?_
        refine qq_lload dX5_digestCell_190 3 rfl ?_
        refine qq_ldc2 (v := 31) dX5_digestCell_192 kl_X5_230 ?_
        refine qq_lmul dX5_digestCell_195 ?_
        refine qq_aload_n dX5_digestCell_196 rfl 0 rfl ?_
        refine qq_iload_n dX5_digestCell_197 rfl 2 rfl ?_
        refine qq_callV (bc := 0) (bs := 0) (mc := 0) (ms := 0) (o := 80) (ci := 2) (N := 6) (T := TX5) (as := [.int cell]) (rest := [.long ((((((((((((((((st9 * 31) + ((r_X5_kind cell S).toInt64)) * 31) + ((r_X5_of cell S).toInt64)) * 31) + ((1 : Int32).toInt64)) * 31) * 31) + ((r_X5_upper cell S).toInt64)) * 31) + ((r_X5_lower cell S).toInt64)) * 31) + ((r_X5_find cell (0 : Int32) S).toInt64)) * 31) + ((r_X5_find cell (1 : Int32) S).toInt64)) * 31)]) dX5_digestCell_198 hS.2.2.1 (by decide) rfl (mo_X5_rank hp S hS cell (by first | assumption | exact ⟨by assumption, by assumption⟩ | exact qm_in8 (by assumption) (by assumption) | exact ⟨by assumption, qm_len (by assumption)⟩ | exact qm_in8d (by assumption) (by assumption) | decide)) rfl kl_X5_274 kn_X5_rank ke_X5_rank ki_X5 kc_X5_rank kd_X5_rank rfl (by decide) (by decide) (Nat.le_of_ble_eq_true rfl) (fun v hp' hv _ _ => ?_) (fun E hp' zx _ _ => zx.elim)
        obtain ⟨rfl, rfl⟩ := hv
        show qq_Go _ hp 0 0 201 [(0, .ref 80), (1, .long st9), (3, .int cell), (4, .long (((((((((((((((st9 * 31) + ((r_X5_kind cell S).toInt64)) * 31) + ((r_X5_of cell S).toInt64)) * 31) + ((1 : Int32).toInt64)) * 31) * 31) + ((r_X5_upper cell S).toInt64)) * 31) + ((r_X5_lower cell S).toInt64)) * 31) + ((r_X5_find cell (0 : Int32) S).toInt64)) * 31) + ((r_X5_find cell (1 : Int32) S).toInt64)))] [.int (r_X5_rank cell S), .long ((((((((((((((((st9 * 31) + ((r_X5_kind cell S).toInt64)) * 31) + ((r_X5_of cell S).toInt64)) * 31) + ((1 : Int32).toInt64)) * 31) * 31) + ((r_X5_upper cell S).toInt64)) * 31) + ((r_X5_lower cell S).toInt64)) * 31) + ((r_X5_find cell (0 : Int32) S).toInt64)) * 31) + ((r_X5_find cell (1 : Int32) S).toInt64)) * 31)] _ _
        refine qq_i2l dX5_digestCell_201 ?_
        refine qq_ladd dX5_digestCell_202 ?_
        refine qq_lstore (loc' := [(0, .ref 80), (1, .long st9), (3, .int cell), (4, .long (((((((((((((((((st9 * 31) + ((r_X5_kind cell S).toInt64)) * 31) + ((r_X5_of cell S).toInt64)) * 31) + ((1 : Int32).toInt64)) * 31) * 31) + ((r_X5_upper cell S).toInt64)) * 31) + ((r_X5_lower cell S).toInt64)) * 31) + ((r_X5_find cell (0 : Int32) S).toInt64)) * 31) + ((r_X5_find cell (1 : Int32) S).toInt64)) * 31) + ((r_X5_rank cell S).toInt64)))]) dX5_digestCell_203 [1, 2, 3, 0] (Nat.le_of_ble_eq_true rfl) rfl ?_
        refine qq_iconst (v := 0) dX5_digestCell_205 (by decide) ?_
        refine qq_istore (loc' := [(0, .ref 80), (1, .long st9), (3, .int cell), (4, .long (((((((((((((((((st9 * 31) + ((r_X5_kind cell S).toInt64)) * 31) + ((r_X5_of cell S).toInt64)) * 31) + ((1 : Int32).toInt64)) * 31) * 31) + ((r_X5_upper cell S).toInt64)) * 31) + ((r_X5_lower cell S).toInt64)) * 31) + ((r_X5_find cell (0 : Int32) S).toInt64)) * 31) + ((r_X5_find cell (1 : Int32) S).toInt64)) * 31) + ((r_X5_rank cell S).toInt64))), (6, .int 0)]) dX5_digestCell_206 [1, 2, 3, 4, 0] (Nat.le_of_ble_eq_true rfl) rfl ?_
        have ze : r_X5_digestCell st9 cell S = lr_X5_digestCell_208 st9 cell 5 (((((((((((((((((st9 * 31) + ((r_X5_kind cell S).toInt64)) * 31) + ((r_X5_of cell S).toInt64)) * 31) + ((1 : Int32).toInt64)) * 31) * 31) + ((r_X5_upper cell S).toInt64)) * 31) + ((r_X5_lower cell S).toInt64)) * 31) + ((r_X5_find cell (0 : Int32) S).toInt64)) * 31) + ((r_X5_find cell (1 : Int32) S).toInt64)) * 31) + ((r_X5_rank cell S).toInt64)) (0 : Int32) S := by
          rw [r_X5_digestCell, if_neg zc1, if_pos zc5, if_neg zc6]
        rw [ze]
        exact lq_X5_digestCell_208 st9 cell zv0 5 (((((((((((((((((st9 * 31) + ((r_X5_kind cell S).toInt64)) * 31) + ((r_X5_of cell S).toInt64)) * 31) + ((1 : Int32).toInt64)) * 31) * 31) + ((r_X5_upper cell S).toInt64)) * 31) + ((r_X5_lower cell S).toInt64)) * 31) + ((r_X5_find cell (0 : Int32) S).toInt64)) * 31) + ((r_X5_find cell (1 : Int32) S).toInt64)) * 31) + ((r_X5_rank cell S).toInt64)) (0 : Int32) hp S hS (by decide) (by decide)
    · refine qq_lload dX5_digestCell_64 3 rfl ?_
      refine qq_ldc2 (v := 31) dX5_digestCell_66 kl_X5_230 ?_
      refine qq_lmul dX5_digestCell_69 ?_
      refine qq_aload_n dX5_digestCell_70 rfl 0 rfl ?_
      refine qq_iload_n dX5_digestCell_71 rfl 2 rfl ?_
      refine qq_callV (bc := 0) (bs := 0) (mc := 0) (ms := 0) (o := 80) (ci := 2) (N := 6) (T := TX5) (as := [.int cell]) (rest := [.long (((((((st9 * 31) + ((r_X5_kind cell S).toInt64)) * 31) + ((r_X5_of cell S).toInt64)) * 31) + ((1 : Int32).toInt64)) * 31)]) dX5_digestCell_72 hS.2.2.1 (by decide) rfl (mo_X5_height hp S hS cell (by first | assumption | exact ⟨by assumption, by assumption⟩ | exact qm_in8 (by assumption) (by assumption) | exact ⟨by assumption, qm_len (by assumption)⟩ | exact qm_in8d (by assumption) (by assumption) | decide) (by first | assumption | exact ⟨by assumption, by assumption⟩ | exact qm_in8 (by assumption) (by assumption) | exact ⟨by assumption, qm_len (by assumption)⟩ | exact qm_in8d (by assumption) (by assumption) | decide)) rfl kl_X5_255 kn_X5_height ke_X5_height ki_X5 kc_X5_height kd_X5_height rfl (by decide) (by decide) (Nat.le_of_ble_eq_true rfl) (fun v hp' hv _ _ => ?_) (fun E hp' zx _ _ => zx.elim)
      obtain ⟨rfl, rfl⟩ := hv
      show qq_Go _ hp 0 0 75 [(0, .ref 80), (1, .long st9), (3, .int cell), (4, .long ((((((st9 * 31) + ((r_X5_kind cell S).toInt64)) * 31) + ((r_X5_of cell S).toInt64)) * 31) + ((1 : Int32).toInt64)))] [.int (r_X5_height cell S), .long (((((((st9 * 31) + ((r_X5_kind cell S).toInt64)) * 31) + ((r_X5_of cell S).toInt64)) * 31) + ((1 : Int32).toInt64)) * 31)] _ _
      refine qq_i2l dX5_digestCell_75 ?_
      refine qq_ladd dX5_digestCell_76 ?_
      refine qq_lstore (loc' := [(0, .ref 80), (1, .long st9), (3, .int cell), (4, .long ((((((((st9 * 31) + ((r_X5_kind cell S).toInt64)) * 31) + ((r_X5_of cell S).toInt64)) * 31) + ((1 : Int32).toInt64)) * 31) + ((r_X5_height cell S).toInt64)))]) dX5_digestCell_77 [1, 2, 3, 0] (Nat.le_of_ble_eq_true rfl) rfl ?_
      refine qq_lload dX5_digestCell_79 3 rfl ?_
      refine qq_ldc2 (v := 31) dX5_digestCell_81 kl_X5_230 ?_
      refine qq_lmul dX5_digestCell_84 ?_
      refine qq_aload_n dX5_digestCell_85 rfl 0 rfl ?_
      refine qq_iload_n dX5_digestCell_86 rfl 2 rfl ?_
      refine qq_callV (bc := 0) (bs := 0) (mc := 0) (ms := 0) (o := 80) (ci := 2) (N := 6) (T := TX5) (as := [.int cell]) (rest := [.long (((((((((st9 * 31) + ((r_X5_kind cell S).toInt64)) * 31) + ((r_X5_of cell S).toInt64)) * 31) + ((1 : Int32).toInt64)) * 31) + ((r_X5_height cell S).toInt64)) * 31)]) dX5_digestCell_87 hS.2.2.1 (by decide) rfl (mo_X5_digits hp S hS cell (by first | assumption | exact ⟨by assumption, by assumption⟩ | exact qm_in8 (by assumption) (by assumption) | exact ⟨by assumption, qm_len (by assumption)⟩ | exact qm_in8d (by assumption) (by assumption) | decide) (by first | assumption | exact ⟨by assumption, by assumption⟩ | exact qm_in8 (by assumption) (by assumption) | exact ⟨by assumption, qm_len (by assumption)⟩ | exact qm_in8d (by assumption) (by assumption) | decide)) rfl kl_X5_258 kn_X5_digits ke_X5_digits ki_X5 kc_X5_digits kd_X5_digits rfl (by decide) (by decide) (Nat.le_of_ble_eq_true rfl) (fun v hp' hv _ _ => ?_) (fun E hp' zx _ _ => zx.elim)
      obtain ⟨rfl, rfl⟩ := hv
      show qq_Go _ hp 0 0 90 [(0, .ref 80), (1, .long st9), (3, .int cell), (4, .long ((((((((st9 * 31) + ((r_X5_kind cell S).toInt64)) * 31) + ((r_X5_of cell S).toInt64)) * 31) + ((1 : Int32).toInt64)) * 31) + ((r_X5_height cell S).toInt64)))] [.int (r_X5_digits cell S), .long (((((((((st9 * 31) + ((r_X5_kind cell S).toInt64)) * 31) + ((r_X5_of cell S).toInt64)) * 31) + ((1 : Int32).toInt64)) * 31) + ((r_X5_height cell S).toInt64)) * 31)] _ _
      refine qq_i2l dX5_digestCell_90 ?_
      refine qq_ladd dX5_digestCell_91 ?_
      refine qq_lstore (loc' := [(0, .ref 80), (1, .long st9), (3, .int cell), (4, .long ((((((((((st9 * 31) + ((r_X5_kind cell S).toInt64)) * 31) + ((r_X5_of cell S).toInt64)) * 31) + ((1 : Int32).toInt64)) * 31) + ((r_X5_height cell S).toInt64)) * 31) + ((r_X5_digits cell S).toInt64)))]) dX5_digestCell_92 [1, 2, 3, 0] (Nat.le_of_ble_eq_true rfl) rfl ?_
      refine qq_goto (tgt := 105) dX5_digestCell_94 (by decide) ?_
      refine qq_aload_n dX5_digestCell_105 rfl 0 rfl ?_
      refine cx_get hS dX5_digestCell_106 0 (by decide) rfl kl_X5_9 ?_
      refine qq_iload_n dX5_digestCell_109 rfl 2 rfl ?_
      refine qq_iald dX5_digestCell_110 hS.2.2.2.1 (by first | assumption | exact qm_in8 (by assumption) (by assumption) | exact qm_in8d (by assumption) (by assumption) | decide) ?_
      refine qq_callS (bc := 0) (bs := 0) (mc := 0) (ms := 0) (as := [.int (S.1 cell.toNatClampNeg)]) (rest := []) dX5_digestCell_111 (mt_X2_hasToldDigits hp (S.1 cell.toNatClampNeg)) rfl kl_X5_261 ks_X2_hasToldDigits ki_X2 kc_X2_hasToldDigits kd_X2_hasToldDigits rfl (by decide) (by decide) (Nat.le_of_ble_eq_true rfl) (fun v hp' hv _ _ => ?_) (fun E hp' zx _ _ => zx.elim)
      obtain ⟨rfl, rfl⟩ := hv
      show qq_Go _ hp 0 0 114 [(0, .ref 80), (1, .long st9), (3, .int cell), (4, .long ((((((((((st9 * 31) + ((r_X5_kind cell S).toInt64)) * 31) + ((r_X5_of cell S).toInt64)) * 31) + ((1 : Int32).toInt64)) * 31) + ((r_X5_height cell S).toInt64)) * 31) + ((r_X5_digits cell S).toInt64)))] [.int (f_X2_hasToldDigits (S.1 cell.toNatClampNeg))] _ _
      refine qq_if_eq (tgt := 150) dX5_digestCell_114 (by decide) (fun zc7 => ?_) (fun zc7 => ?_)
      · refine qq_lload dX5_digestCell_150 3 rfl ?_
        refine qq_ldc2 (v := 31) dX5_digestCell_152 kl_X5_230 ?_
        refine qq_lmul dX5_digestCell_155 ?_
        refine qq_lstore (loc' := [(0, .ref 80), (1, .long st9), (3, .int cell), (4, .long (((((((((((st9 * 31) + ((r_X5_kind cell S).toInt64)) * 31) + ((r_X5_of cell S).toInt64)) * 31) + ((1 : Int32).toInt64)) * 31) + ((r_X5_height cell S).toInt64)) * 31) + ((r_X5_digits cell S).toInt64)) * 31))]) dX5_digestCell_156 [1, 2, 3, 0] (Nat.le_of_ble_eq_true rfl) rfl ?_
        refine qq_lload dX5_digestCell_158 3 rfl ?_
        refine qq_ldc2 (v := 31) dX5_digestCell_160 kl_X5_230 ?_
        refine qq_lmul dX5_digestCell_163 ?_
        refine qq_aload_n dX5_digestCell_164 rfl 0 rfl ?_
        refine qq_iload_n dX5_digestCell_165 rfl 2 rfl ?_
        refine qq_iconst (v := 0) dX5_digestCell_166 (by decide) ?_
        refine qq_callV (bc := 0) (bs := 0) (mc := 0) (ms := 0) (o := 80) (ci := 2) (N := 6) (T := TX5) (as := [.int cell, .int 0]) (rest := [.long ((((((((((((st9 * 31) + ((r_X5_kind cell S).toInt64)) * 31) + ((r_X5_of cell S).toInt64)) * 31) + ((1 : Int32).toInt64)) * 31) + ((r_X5_height cell S).toInt64)) * 31) + ((r_X5_digits cell S).toInt64)) * 31) * 31)]) dX5_digestCell_167 hS.2.2.1 (by decide) rfl (mo_X5_find hp S hS cell (0 : Int32) (by first | assumption | exact ⟨by assumption, by assumption⟩ | exact qm_in8 (by assumption) (by assumption) | exact ⟨by assumption, qm_len (by assumption)⟩ | exact qm_in8d (by assumption) (by assumption) | decide)) rfl kl_X5_270 kn_X5_find ke_X5_find ki_X5 kc_X5_find kd_X5_find rfl (by decide) (by decide) (Nat.le_of_ble_eq_true rfl) (fun v hp' hv _ _ => ?_) (fun E hp' zx _ _ => zx.elim)
        obtain ⟨rfl, rfl⟩ := hv
        show qq_Go _ hp 0 0 170 [(0, .ref 80), (1, .long st9), (3, .int cell), (4, .long (((((((((((st9 * 31) + ((r_X5_kind cell S).toInt64)) * 31) + ((r_X5_of cell S).toInt64)) * 31) + ((1 : Int32).toInt64)) * 31) + ((r_X5_height cell S).toInt64)) * 31) + ((r_X5_digits cell S).toInt64)) * 31))] [.int (r_X5_find cell (0 : Int32) S), .long ((((((((((((st9 * 31) + ((r_X5_kind cell S).toInt64)) * 31) + ((r_X5_of cell S).toInt64)) * 31) + ((1 : Int32).toInt64)) * 31) + ((r_X5_height cell S).toInt64)) * 31) + ((r_X5_digits cell S).toInt64)) * 31) * 31)] _ _
        refine qq_i2l dX5_digestCell_170 ?_
        refine qq_ladd dX5_digestCell_171 ?_
        refine qq_lstore (loc' := [(0, .ref 80), (1, .long st9), (3, .int cell), (4, .long (((((((((((((st9 * 31) + ((r_X5_kind cell S).toInt64)) * 31) + ((r_X5_of cell S).toInt64)) * 31) + ((1 : Int32).toInt64)) * 31) + ((r_X5_height cell S).toInt64)) * 31) + ((r_X5_digits cell S).toInt64)) * 31) * 31) + ((r_X5_find cell (0 : Int32) S).toInt64)))]) dX5_digestCell_172 [1, 2, 3, 0] (Nat.le_of_ble_eq_true rfl) rfl ?_
        refine qq_lload dX5_digestCell_174 3 rfl ?_
        refine qq_ldc2 (v := 31) dX5_digestCell_176 kl_X5_230 ?_
        refine qq_lmul dX5_digestCell_179 ?_
        refine qq_aload_n dX5_digestCell_180 rfl 0 rfl ?_
        refine qq_iload_n dX5_digestCell_181 rfl 2 rfl ?_
        refine qq_iconst (v := 1) dX5_digestCell_182 (by decide) ?_
        refine qq_callV (bc := 0) (bs := 0) (mc := 0) (ms := 0) (o := 80) (ci := 2) (N := 6) (T := TX5) (as := [.int cell, .int 1]) (rest := [.long ((((((((((((((st9 * 31) + ((r_X5_kind cell S).toInt64)) * 31) + ((r_X5_of cell S).toInt64)) * 31) + ((1 : Int32).toInt64)) * 31) + ((r_X5_height cell S).toInt64)) * 31) + ((r_X5_digits cell S).toInt64)) * 31) * 31) + ((r_X5_find cell (0 : Int32) S).toInt64)) * 31)]) dX5_digestCell_183 hS.2.2.1 (by decide) rfl (mo_X5_find hp S hS cell (1 : Int32) (by first | assumption | exact ⟨by assumption, by assumption⟩ | exact qm_in8 (by assumption) (by assumption) | exact ⟨by assumption, qm_len (by assumption)⟩ | exact qm_in8d (by assumption) (by assumption) | decide)) rfl kl_X5_270 kn_X5_find ke_X5_find ki_X5 kc_X5_find kd_X5_find rfl (by decide) (by decide) (Nat.le_of_ble_eq_true rfl) (fun v hp' hv _ _ => ?_) (fun E hp' zx _ _ => zx.elim)
        obtain ⟨rfl, rfl⟩ := hv
        show qq_Go _ hp 0 0 186 [(0, .ref 80), (1, .long st9), (3, .int cell), (4, .long (((((((((((((st9 * 31) + ((r_X5_kind cell S).toInt64)) * 31) + ((r_X5_of cell S).toInt64)) * 31) + ((1 : Int32).toInt64)) * 31) + ((r_X5_height cell S).toInt64)) * 31) + ((r_X5_digits cell S).toInt64)) * 31) * 31) + ((r_X5_find cell (0 : Int32) S).toInt64)))] [.int (r_X5_find cell (1 : Int32) S), .long ((((((((((((((st9 * 31) + ((r_X5_kind cell S).toInt64)) * 31) + ((r_X5_of cell S).toInt64)) * 31) + ((1 : Int32).toInt64)) * 31) + ((r_X5_height cell S).toInt64)) * 31) + ((r_X5_digits cell S).toInt64)) * 31) * 31) + ((r_X5_find cell (0 : Int32) S).toInt64)) * 31)] _ _
        refine qq_i2l dX5_digestCell_186 ?_
        refine qq_ladd dX5_digestCell_187 ?_
        refine qq_lstore (loc' := [(0, .ref 80), (1, .long st9), (3, .int cell), (4, .long (((((((((((((((st9 * 31) + ((r_X5_kind cell S).toInt64)) * 31) + ((r_X5_of cell S).toInt64)) * 31) + ((1 : Int32).toInt64)) * 31) + ((r_X5_height cell S).toInt64)) * 31) + ((r_X5_digits cell S).toInt64)) * 31) * 31) + ((r_X5_find cell (0 : Int32) S).toInt64)) * 31) + ((r_X5_find cell (1 : Int32) S).toInt64)))]) dX5_digestCell_188 [1, 2, 3, 0] (Nat.le_of_ble_eq_true rfl) rfl ?_
        refine qq_lload dX5_digestCell_190 3 rfl ?_
        refine qq_ldc2 (v := 31) dX5_digestCell_192 kl_X5_230 ?_
        refine qq_lmul dX5_digestCell_195 ?_
        refine qq_aload_n dX5_digestCell_196 rfl 0 rfl ?_
        refine qq_iload_n dX5_digestCell_197 rfl 2 rfl ?_
        refine qq_callV (bc := 0) (bs := 0) (mc := 0) (ms := 0) (o := 80) (ci := 2) (N := 6) (T := TX5) (as := [.int cell]) (rest := [.long ((((((((((((((((st9 * 31) + ((r_X5_kind cell S).toInt64)) * 31) + ((r_X5_of cell S).toInt64)) * 31) + ((1 : Int32).toInt64)) * 31) + ((r_X5_height cell S).toInt64)) * 31) + ((r_X5_digits cell S).toInt64)) * 31) * 31) + ((r_X5_find cell (0 : Int32) S).toInt64)) * 31) + ((r_X5_find cell (1 : Int32) S).toInt64)) * 31)]) dX5_digestCell_198 hS.2.2.1 (by decide) rfl (mo_X5_rank hp S hS cell (by first | assumption | exact ⟨by assumption, by assumption⟩ | exact qm_in8 (by assumption) (by assumption) | exact ⟨by assumption, qm_len (by assumption)⟩ | exact qm_in8d (by assumption) (by assumption) | decide)) rfl kl_X5_274 kn_X5_rank ke_X5_rank ki_X5 kc_X5_rank kd_X5_rank rfl (by decide) (by decide) (Nat.le_of_ble_eq_true rfl) (fun v hp' hv _ _ => ?_) (fun E hp' zx _ _ => zx.elim)
        obtain ⟨rfl, rfl⟩ := hv
        show qq_Go _ hp 0 0 201 [(0, .ref 80), (1, .long st9), (3, .int cell), (4, .long (((((((((((((((st9 * 31) + ((r_X5_kind cell S).toInt64)) * 31) + ((r_X5_of cell S).toInt64)) * 31) + ((1 : Int32).toInt64)) * 31) + ((r_X5_height cell S).toInt64)) * 31) + ((r_X5_digits cell S).toInt64)) * 31) * 31) + ((r_X5_find cell (0 : Int32) S).toInt64)) * 31) + ((r_X5_find cell (1 : Int32) S).toInt64)))] [.int (r_X5_rank cell S), .long ((((((((((((((((st9 * 31) + ((r_X5_kind cell S).toInt64)) * 31) + ((r_X5_of cell S).toInt64)) * 31) + ((1 : Int32).toInt64)) * 31) + ((r_X5_height cell S).toInt64)) * 31) + ((r_X5_digits cell S).toInt64)) * 31) * 31) + ((r_X5_find cell (0 : Int32) S).toInt64)) * 31) + ((r_X5_find cell (1 : Int32) S).toInt64)) * 31)] _ _
        refine qq_i2l dX5_digestCell_201 ?_
        refine qq_ladd dX5_digestCell_202 ?_
        refine qq_lstore (loc' := [(0, .ref 80), (1, .long st9), (3, .int cell), (4, .long (((((((((((((((((st9 * 31) + ((r_X5_kind cell S).toInt64)) * 31) + ((r_X5_of cell S).toInt64)) * 31) + ((1 : Int32).toInt64)) * 31) + ((r_X5_height cell S).toInt64)) * 31) + ((r_X5_digits cell S).toInt64)) * 31) * 31) + ((r_X5_find cell (0 : Int32) S).toInt64)) * 31) + ((r_X5_find cell (1 : Int32) S).toInt64)) * 31) + ((r_X5_rank cell S).toInt64)))]) dX5_digestCell_203 [1, 2, 3, 0] (Nat.le_of_ble_eq_true rfl) rfl ?_
        refine qq_iconst (v := 0) dX5_digestCell_205 (by decide) ?_
        refine qq_istore (loc' := [(0, .ref 80), (1, .long st9), (3, .int cell), (4, .long (((((((((((((((((st9 * 31) + ((r_X5_kind cell S).toInt64)) * 31) + ((r_X5_of cell S).toInt64)) * 31) + ((1 : Int32).toInt64)) * 31) + ((r_X5_height cell S).toInt64)) * 31) + ((r_X5_digits cell S).toInt64)) * 31) * 31) + ((r_X5_find cell (0 : Int32) S).toInt64)) * 31) + ((r_X5_find cell (1 : Int32) S).toInt64)) * 31) + ((r_X5_rank cell S).toInt64))), (6, .int 0)]) dX5_digestCell_206 [1, 2, 3, 4, 0] (Nat.le_of_ble_eq_true rfl) rfl ?_
        have ze : r_X5_digestCell st9 cell S = lr_X5_digestCell_208 st9 cell 5 (((((((((((((((((st9 * 31) + ((r_X5_kind cell S).toInt64)) * 31) + ((r_X5_of cell S).toInt64)) * 31) + ((1 : Int32).toInt64)) * 31) + ((r_X5_height cell S).toInt64)) * 31) + ((r_X5_digits cell S).toInt64)) * 31) * 31) + ((r_X5_find cell (0 : Int32) S).toInt64)) * 31) + ((r_X5_find cell (1 : Int32) S).toInt64)) * 31) + ((r_X5_rank cell S).toInt64)) (0 : Int32) S := by
          rw [r_X5_digestCell, if_neg zc1, if_neg zc5, if_pos zc7]
        rw [ze]
        exact lq_X5_digestCell_208 st9 cell zv0 5 (((((((((((((((((st9 * 31) + ((r_X5_kind cell S).toInt64)) * 31) + ((r_X5_of cell S).toInt64)) * 31) + ((1 : Int32).toInt64)) * 31) + ((r_X5_height cell S).toInt64)) * 31) + ((r_X5_digits cell S).toInt64)) * 31) * 31) + ((r_X5_find cell (0 : Int32) S).toInt64)) * 31) + ((r_X5_find cell (1 : Int32) S).toInt64)) * 31) + ((r_X5_rank cell S).toInt64)) (0 : Int32) hp S hS (by decide) (by decide)
      · refine qq_lload dX5_digestCell_117 3 rfl ?_
        refine qq_ldc2 (v := 31) dX5_digestCell_119 kl_X5_230 ?_
        refine qq_lmul dX5_digestCell_122 ?_
        refine qq_aload_n dX5_digestCell_123 rfl 0 rfl ?_
        refine qq_iload_n dX5_digestCell_124 rfl 2 rfl ?_
        refine qq_callV (bc := 0) (bs := 0) (mc := 0) (ms := 0) (o := 80) (ci := 2) (N := 6) (T := TX5) (as := [.int cell]) (rest := [.long (((((((((((st9 * 31) + ((r_X5_kind cell S).toInt64)) * 31) + ((r_X5_of cell S).toInt64)) * 31) + ((1 : Int32).toInt64)) * 31) + ((r_X5_height cell S).toInt64)) * 31) + ((r_X5_digits cell S).toInt64)) * 31)]) dX5_digestCell_125 hS.2.2.1 (by decide) rfl (mo_X5_upper hp S hS cell (by first | assumption | exact ⟨by assumption, by assumption⟩ | exact qm_in8 (by assumption) (by assumption) | exact ⟨by assumption, qm_len (by assumption)⟩ | exact qm_in8d (by assumption) (by assumption) | decide) (by first | assumption | exact ⟨by assumption, by assumption⟩ | exact qm_in8 (by assumption) (by assumption) | exact ⟨by assumption, qm_len (by assumption)⟩ | exact qm_in8d (by assumption) (by assumption) | decide)) rfl kl_X5_264 kn_X5_upper ke_X5_upper ki_X5 kc_X5_upper kd_X5_upper rfl (by decide) (by decide) (Nat.le_of_ble_eq_true rfl) (fun v hp' hv _ _ => ?_) (fun E hp' zx _ _ => zx.elim)
        obtain ⟨rfl, rfl⟩ := hv
        show qq_Go _ hp 0 0 128 [(0, .ref 80), (1, .long st9), (3, .int cell), (4, .long ((((((((((st9 * 31) + ((r_X5_kind cell S).toInt64)) * 31) + ((r_X5_of cell S).toInt64)) * 31) + ((1 : Int32).toInt64)) * 31) + ((r_X5_height cell S).toInt64)) * 31) + ((r_X5_digits cell S).toInt64)))] [.int (r_X5_upper cell S), .long (((((((((((st9 * 31) + ((r_X5_kind cell S).toInt64)) * 31) + ((r_X5_of cell S).toInt64)) * 31) + ((1 : Int32).toInt64)) * 31) + ((r_X5_height cell S).toInt64)) * 31) + ((r_X5_digits cell S).toInt64)) * 31)] _ _
        refine qq_i2l dX5_digestCell_128 ?_
        refine qq_ladd dX5_digestCell_129 ?_
        refine qq_lstore (loc' := [(0, .ref 80), (1, .long st9), (3, .int cell), (4, .long ((((((((((((st9 * 31) + ((r_X5_kind cell S).toInt64)) * 31) + ((r_X5_of cell S).toInt64)) * 31) + ((1 : Int32).toInt64)) * 31) + ((r_X5_height cell S).toInt64)) * 31) + ((r_X5_digits cell S).toInt64)) * 31) + ((r_X5_upper cell S).toInt64)))]) dX5_digestCell_130 [1, 2, 3, 0] (Nat.le_of_ble_eq_true rfl) rfl ?_
        refine qq_lload dX5_digestCell_132 3 rfl ?_
        refine qq_ldc2 (v := 31) dX5_digestCell_134 kl_X5_230 ?_
        refine qq_lmul dX5_digestCell_137 ?_
        refine qq_aload_n dX5_digestCell_138 rfl 0 rfl ?_
        refine qq_iload_n dX5_digestCell_139 rfl 2 rfl ?_
        refine qq_callV (bc := 0) (bs := 0) (mc := 0) (ms := 0) (o := 80) (ci := 2) (N := 6) (T := TX5) (as := [.int cell]) (rest := [.long (((((((((((((st9 * 31) + ((r_X5_kind cell S).toInt64)) * 31) + ((r_X5_of cell S).toInt64)) * 31) + ((1 : Int32).toInt64)) * 31) + ((r_X5_height cell S).toInt64)) * 31) + ((r_X5_digits cell S).toInt64)) * 31) + ((r_X5_upper cell S).toInt64)) * 31)]) dX5_digestCell_140 hS.2.2.1 (by decide) rfl (mo_X5_lower hp S hS cell (by first | assumption | exact ⟨by assumption, by assumption⟩ | exact qm_in8 (by assumption) (by assumption) | exact ⟨by assumption, qm_len (by assumption)⟩ | exact qm_in8d (by assumption) (by assumption) | decide) (by first | assumption | exact ⟨by assumption, by assumption⟩ | exact qm_in8 (by assumption) (by assumption) | exact ⟨by assumption, qm_len (by assumption)⟩ | exact qm_in8d (by assumption) (by assumption) | decide)) rfl kl_X5_267 kn_X5_lower ke_X5_lower ki_X5 kc_X5_lower kd_X5_lower rfl (by decide) (by decide) (Nat.le_of_ble_eq_true rfl) (fun v hp' hv _ _ => ?_) (fun E hp' zx _ _ => zx.elim)
        obtain ⟨rfl, rfl⟩ := hv
        show qq_Go _ hp 0 0 143 [(0, .ref 80), (1, .long st9), (3, .int cell), (4, .long ((((((((((((st9 * 31) + ((r_X5_kind cell S).toInt64)) * 31) + ((r_X5_of cell S).toInt64)) * 31) + ((1 : Int32).toInt64)) * 31) + ((r_X5_height cell S).toInt64)) * 31) + ((r_X5_digits cell S).toInt64)) * 31) + ((r_X5_upper cell S).toInt64)))] [.int (r_X5_lower cell S), .long (((((((((((((st9 * 31) + ((r_X5_kind cell S).toInt64)) * 31) + ((r_X5_of cell S).toInt64)) * 31) + ((1 : Int32).toInt64)) * 31) + ((r_X5_height cell S).toInt64)) * 31) + ((r_X5_digits cell S).toInt64)) * 31) + ((r_X5_upper cell S).toInt64)) * 31)] _ _
        refine qq_i2l dX5_digestCell_143 ?_
        refine qq_ladd dX5_digestCell_144 ?_
        refine qq_lstore (loc' := [(0, .ref 80), (1, .long st9), (3, .int cell), (4, .long ((((((((((((((st9 * 31) + ((r_X5_kind cell S).toInt64)) * 31) + ((r_X5_of cell S).toInt64)) * 31) + ((1 : Int32).toInt64)) * 31) + ((r_X5_height cell S).toInt64)) * 31) + ((r_X5_digits cell S).toInt64)) * 31) + ((r_X5_upper cell S).toInt64)) * 31) + ((r_X5_lower cell S).toInt64)))]) dX5_digestCell_145 [1, 2, 3, 0] (Nat.le_of_ble_eq_true rfl) rfl ?_
        refine qq_goto (tgt := 158) dX5_digestCell_147 (by decide) ?_
        refine qq_lload dX5_digestCell_158 3 rfl ?_
        refine qq_ldc2 (v := 31) dX5_digestCell_160 kl_X5_230 ?_
        refine qq_lmul dX5_digestCell_163 ?_
        refine qq_aload_n dX5_digestCell_164 rfl 0 rfl ?_
        refine qq_iload_n dX5_digestCell_165 rfl 2 rfl ?_
        refine qq_iconst (v := 0) dX5_digestCell_166 (by decide) ?_
        refine qq_callV (bc := 0) (bs := 0) (mc := 0) (ms := 0) (o := 80) (ci := 2) (N := 6) (T := TX5) (as := [.int cell, .int 0]) (rest := [.long (((((((((((((((st9 * 31) + ((r_X5_kind cell S).toInt64)) * 31) + ((r_X5_of cell S).toInt64)) * 31) + ((1 : Int32).toInt64)) * 31) + ((r_X5_height cell S).toInt64)) * 31) + ((r_X5_digits cell S).toInt64)) * 31) + ((r_X5_upper cell S).toInt64)) * 31) + ((r_X5_lower cell S).toInt64)) * 31)]) dX5_digestCell_167 hS.2.2.1 (by decide) rfl (mo_X5_find hp S hS cell (0 : Int32) (by first | assumption | exact ⟨by assumption, by assumption⟩ | exact qm_in8 (by assumption) (by assumption) | exact ⟨by assumption, qm_len (by assumption)⟩ | exact qm_in8d (by assumption) (by assumption) | decide)) rfl kl_X5_270 kn_X5_find ke_X5_find ki_X5 kc_X5_find kd_X5_find rfl (by decide) (by decide) (Nat.le_of_ble_eq_true rfl) (fun v hp' hv _ _ => ?_) (fun E hp' zx _ _ => zx.elim)
        obtain ⟨rfl, rfl⟩ := hv
        show qq_Go _ hp 0 0 170 [(0, .ref 80), (1, .long st9), (3, .int cell), (4, .long ((((((((((((((st9 * 31) + ((r_X5_kind cell S).toInt64)) * 31) + ((r_X5_of cell S).toInt64)) * 31) + ((1 : Int32).toInt64)) * 31) + ((r_X5_height cell S).toInt64)) * 31) + ((r_X5_digits cell S).toInt64)) * 31) + ((r_X5_upper cell S).toInt64)) * 31) + ((r_X5_lower cell S).toInt64)))] [.int (r_X5_find cell (0 : Int32) S), .long (((((((((((((((st9 * 31) + ((r_X5_kind cell S).toInt64)) * 31) + ((r_X5_of cell S).toInt64)) * 31) + ((1 : Int32).toInt64)) * 31) + ((r_X5_height cell S).toInt64)) * 31) + ((r_X5_digits cell S).toInt64)) * 31) + ((r_X5_upper cell S).toInt64)) * 31) + ((r_X5_lower cell S).toInt64)) * 31)] _ _
        refine qq_i2l dX5_digestCell_170 ?_
        refine qq_ladd dX5_digestCell_171 ?_
        refine qq_lstore (loc' := [(0, .ref 80), (1, .long st9), (3, .int cell), (4, .long ((((((((((((((((st9 * 31) + ((r_X5_kind cell S).toInt64)) * 31) + ((r_X5_of cell S).toInt64)) * 31) + ((1 : Int32).toInt64)) * 31) + ((r_X5_height cell S).toInt64)) * 31) + ((r_X5_digits cell S).toInt64)) * 31) + ((r_X5_upper cell S).toInt64)) * 31) + ((r_X5_lower cell S).toInt64)) * 31) + ((r_X5_find cell (0 : Int32) S).toInt64)))]) dX5_digestCell_172 [1, 2, 3, 0] (Nat.le_of_ble_eq_true rfl) rfl ?_
        refine qq_lload dX5_digestCell_174 3 rfl ?_
        refine qq_ldc2 (v := 31) dX5_digestCell_176 kl_X5_230 ?_
        refine qq_lmul dX5_digestCell_179 ?_
        refine qq_aload_n dX5_digestCell_180 rfl 0 rfl ?_
        refine qq_iload_n dX5_digestCell_181 rfl 2 rfl ?_
        refine qq_iconst (v := 1) dX5_digestCell_182 (by decide) ?_
        refine qq_callV (bc := 0) (bs := 0) (mc := 0) (ms := 0) (o := 80) (ci := 2) (N := 6) (T := TX5) (as := [.int cell, .int 1]) (rest := [.long (((((((((((((((((st9 * 31) + ((r_X5_kind cell S).toInt64)) * 31) + ((r_X5_of cell S).toInt64)) * 31) + ((1 : Int32).toInt64)) * 31) + ((r_X5_height cell S).toInt64)) * 31) + ((r_X5_digits cell S).toInt64)) * 31) + ((r_X5_upper cell S).toInt64)) * 31) + ((r_X5_lower cell S).toInt64)) * 31) + ((r_X5_find cell (0 : Int32) S).toInt64)) * 31)]) dX5_digestCell_183 hS.2.2.1 (by decide) rfl (mo_X5_find hp S hS cell (1 : Int32) (by first | assumption | exact ⟨by assumption, by assumption⟩ | exact qm_in8 (by assumption) (by assumption) | exact ⟨by assumption, qm_len (by assumption)⟩ | exact qm_in8d (by assumption) (by assumption) | decide)) rfl kl_X5_270 kn_X5_find ke_X5_find ki_X5 kc_X5_find kd_X5_find rfl (by decide) (by decide) (Nat.le_of_ble_eq_true rfl) (fun v hp' hv _ _ => ?_) (fun E hp' zx _ _ => zx.elim)
        obtain ⟨rfl, rfl⟩ := hv
        show qq_Go _ hp 0 0 186 [(0, .ref 80), (1, .long st9), (3, .int cell), (4, .long ((((((((((((((((st9 * 31) + ((r_X5_kind cell S).toInt64)) * 31) + ((r_X5_of cell S).toInt64)) * 31) + ((1 : Int32).toInt64)) * 31) + ((r_X5_height cell S).toInt64)) * 31) + ((r_X5_digits cell S).toInt64)) * 31) + ((r_X5_upper cell S).toInt64)) * 31) + ((r_X5_lower cell S).toInt64)) * 31) + ((r_X5_find cell (0 : Int32) S).toInt64)))] [.int (r_X5_find cell (1 : Int32) S), .long (((((((((((((((((st9 * 31) + ((r_X5_kind cell S).toInt64)) * 31) + ((r_X5_of cell S).toInt64)) * 31) + ((1 : Int32).toInt64)) * 31) + ((r_X5_height cell S).toInt64)) * 31) + ((r_X5_digits cell S).toInt64)) * 31) + ((r_X5_upper cell S).toInt64)) * 31) + ((r_X5_lower cell S).toInt64)) * 31) + ((r_X5_find cell (0 : Int32) S).toInt64)) * 31)] _ _
        refine qq_i2l dX5_digestCell_186 ?_
        refine qq_ladd dX5_digestCell_187 ?_
        refine qq_lstore (loc' := [(0, .ref 80), (1, .long st9), (3, .int cell), (4, .long ((((((((((((((((((st9 * 31) + ((r_X5_kind cell S).toInt64)) * 31) + ((r_X5_of cell S).toInt64)) * 31) + ((1 : Int32).toInt64)) * 31) + ((r_X5_height cell S).toInt64)) * 31) + ((r_X5_digits cell S).toInt64)) * 31) + ((r_X5_upper cell S).toInt64)) * 31) + ((r_X5_lower cell S).toInt64)) * 31) + ((r_X5_find cell (0 : Int32) S).toInt64)) * 31) + ((r_X5_find cell (1 : Int32) S).toInt64)))]) dX5_digestCell_188 [1, 2, 3, 0] (Nat.le_of_ble_eq_true rfl) rfl ?_
        refine qq_lload dX5_digestCell_190 3 rfl ?_
        refine qq_ldc2 (v := 31) dX5_digestCell_192 kl_X5_230 ?_
        refine qq_lmul dX5_digestCell_195 ?_
        refine qq_aload_n dX5_digestCell_196 rfl 0 rfl ?_
        refine qq_iload_n dX5_digestCell_197 rfl 2 rfl ?_
        refine qq_callV (bc := 0) (bs := 0) (mc := 0) (ms := 0) (o := 80) (ci := 2) (N := 6) (T := TX5) (as := [.int cell]) (rest := [.long (((((((((((((((((((st9 * 31) + ((r_X5_kind cell S).toInt64)) * 31) + ((r_X5_of cell S).toInt64)) * 31) + ((1 : Int32).toInt64)) * 31) + ((r_X5_height cell S).toInt64)) * 31) + ((r_X5_digits cell S).toInt64)) * 31) + ((r_X5_upper cell S).toInt64)) * 31) + ((r_X5_lower cell S).toInt64)) * 31) + ((r_X5_find cell (0 : Int32) S).toInt64)) * 31) + ((r_X5_find cell (1 : Int32) S).toInt64)) * 31)]) dX5_digestCell_198 hS.2.2.1 (by decide) rfl (mo_X5_rank hp S hS cell (by first | assumption | exact ⟨by assumption, by assumption⟩ | exact qm_in8 (by assumption) (by assumption) | exact ⟨by assumption, qm_len (by assumption)⟩ | exact qm_in8d (by assumption) (by assumption) | decide)) rfl kl_X5_274 kn_X5_rank ke_X5_rank ki_X5 kc_X5_rank kd_X5_rank rfl (by decide) (by decide) (Nat.le_of_ble_eq_true rfl) (fun v hp' hv _ _ => ?_) (fun E hp' zx _ _ => zx.elim)
        obtain ⟨rfl, rfl⟩ := hv
        show qq_Go _ hp 0 0 201 [(0, .ref 80), (1, .long st9), (3, .int cell), (4, .long ((((((((((((((((((st9 * 31) + ((r_X5_kind cell S).toInt64)) * 31) + ((r_X5_of cell S).toInt64)) * 31) + ((1 : Int32).toInt64)) * 31) + ((r_X5_height cell S).toInt64)) * 31) + ((r_X5_digits cell S).toInt64)) * 31) + ((r_X5_upper cell S).toInt64)) * 31) + ((r_X5_lower cell S).toInt64)) * 31) + ((r_X5_find cell (0 : Int32) S).toInt64)) * 31) + ((r_X5_find cell (1 : Int32) S).toInt64)))] [.int (r_X5_rank cell S), .long (((((((((((((((((((st9 * 31) + ((r_X5_kind cell S).toInt64)) * 31) + ((r_X5_of cell S).toInt64)) * 31) + ((1 : Int32).toInt64)) * 31) + ((r_X5_height cell S).toInt64)) * 31) + ((r_X5_digits cell S).toInt64)) * 31) + ((r_X5_upper cell S).toInt64)) * 31) + ((r_X5_lower cell S).toInt64)) * 31) + ((r_X5_find cell (0 : Int32) S).toInt64)) * 31) + ((r_X5_find cell (1 : Int32) S).toInt64)) * 31)] _ _
        refine qq_i2l dX5_digestCell_201 ?_
        refine qq_ladd dX5_digestCell_202 ?_
        refine qq_lstore (loc' := [(0, .ref 80), (1, .long st9), (3, .int cell), (4, .long ((((((((((((((((((((st9 * 31) + ((r_X5_kind cell S).toInt64)) * 31) + ((r_X5_of cell S).toInt64)) * 31) + ((1 : Int32).toInt64)) * 31) + ((r_X5_height cell S).toInt64)) * 31) + ((r_X5_digits cell S).toInt64)) * 31) + ((r_X5_upper cell S).toInt64)) * 31) + ((r_X5_lower cell S).toInt64)) * 31) + ((r_X5_find cell (0 : Int32) S).toInt64)) * 31) + ((r_X5_find cell (1 : Int32) S).toInt64)) * 31) + ((r_X5_rank cell S).toInt64)))]) dX5_digestCell_203 [1, 2, 3, 0] (Nat.le_of_ble_eq_true rfl) rfl ?_
        refine qq_iconst (v := 0) dX5_digestCell_205 (by decide) ?_
        refine qq_istore (loc' := [(0, .ref 80), (1, .long st9), (3, .int cell), (4, .long ((((((((((((((((((((st9 * 31) + ((r_X5_kind cell S).toInt64)) * 31) + ((r_X5_of cell S).toInt64)) * 31) + ((1 : Int32).toInt64)) * 31) + ((r_X5_height cell S).toInt64)) * 31) + ((r_X5_digits cell S).toInt64)) * 31) + ((r_X5_upper cell S).toInt64)) * 31) + ((r_X5_lower cell S).toInt64)) * 31) + ((r_X5_find cell (0 : Int32) S).toInt64)) * 31) + ((r_X5_find cell (1 : Int32) S).toInt64)) * 31) + ((r_X5_rank cell S).toInt64))), (6, .int 0)]) dX5_digestCell_206 [1, 2, 3, 4, 0] (Nat.le_of_ble_eq_true rfl) rfl ?_
        have ze : r_X5_digestCell st9 cell S = lr_X5_digestCell_208 st9 cell 5 ((((((((((((((((((((st9 * 31) + ((r_X5_kind cell S).toInt64)) * 31) + ((r_X5_of cell S).toInt64)) * 31) + ((1 : Int32).toInt64)) * 31) + ((r_X5_height cell S).toInt64)) * 31) + ((r_X5_digits cell S).toInt64)) * 31) + ((r_X5_upper cell S).toInt64)) * 31) + ((r_X5_lower cell S).toInt64)) * 31) + ((r_X5_find cell (0 : Int32) S).toInt64)) * 31) + ((r_X5_find cell (1 : Int32) S).toInt64)) * 31) + ((r_X5_rank cell S).toInt64)) (0 : Int32) S := by
          rw [r_X5_digestCell, if_neg zc1, if_neg zc5, if_neg zc7]
        rw [ze]
        exact lq_X5_digestCell_208 st9 cell zv0 5 ((((((((((((((((((((st9 * 31) + ((r_X5_kind cell S).toInt64)) * 31) + ((r_X5_of cell S).toInt64)) * 31) + ((1 : Int32).toInt64)) * 31) + ((r_X5_height cell S).toInt64)) * 31) + ((r_X5_digits cell S).toInt64)) * 31) + ((r_X5_upper cell S).toInt64)) * 31) + ((r_X5_lower cell S).toInt64)) * 31) + ((r_X5_find cell (0 : Int32) S).toInt64)) * 31) + ((r_X5_find cell (1 : Int32) S).toInt64)) * 31) + ((r_X5_rank cell S).toInt64)) (0 : Int32) hp S hS (by decide) (by decide)
def lr_X5_digest_74  : Nat → Int64 → Int32 → sX → Int64
  | 0, _, _, _ => 0
  | fu + 1, d9, w9, S => if 4 < w9 then if (r_X5_isSound S) = 0 then (d9 * 31) + ((0 : Int32).toInt64) else (d9 * 31) + ((1 : Int32).toInt64) else lr_X5_digest_74 fu ((d9 * 31) + ((r_X5_house w9 S).toInt64)) (w9 + 1) S
set_option maxRecDepth 4000 in
theorem lq_X5_digest_74    : ∀ (fu : Nat) (d9 : Int64) (w9 : Int32) (hp : qq_H) (S : sX), cs_X S hp → ¬ w9 < 0 → ((4 : Int32).toInt + 1 - w9.toInt).toNat < fu → qq_Go mX5_digest hp 0 0 74 [(0, .ref 80), (1, .long d9), (3, .int w9)] [] (fun v hp' => v = some (.long (lr_X5_digest_74 fu d9 w9 S)) ∧ hp = hp') (fun _ _ => False)
  | 0, _, _, hp, _, _, _, zz => absurd zz (Nat.not_lt_zero _)
  | fu + 1, d9, w9, hp, S, hS, zw9, zh => by
    refine qq_iload_n dX5_digest_74 rfl 2 rfl ?_
    refine qq_iconst (v := 4) dX5_digest_75 (by decide) ?_
    refine qq_icmp_gt (tgt := 98) dX5_digest_76 (by decide) (fun zc1 => ?_) (fun zc1 => ?_)
    · refine qq_lload_n dX5_digest_98 rfl 1 rfl ?_
      refine qq_ldc2 (v := 31) dX5_digest_99 kl_X5_230 ?_
      refine qq_lmul dX5_digest_102 ?_
      refine qq_aload_n dX5_digest_103 rfl 0 rfl ?_
      refine qq_callV (bc := 0) (bs := 0) (mc := 0) (ms := 0) (o := 80) (ci := 2) (N := 6) (T := TX5) (as := []) (rest := [.long (d9 * 31)]) dX5_digest_104 hS.2.2.1 (by decide) rfl (mt_X5_isSound hp S hS ) rfl kl_X5_238 kn_X5_isSound ke_X5_isSound ki_X5 kc_X5_isSound kd_X5_isSound rfl (by decide) (by decide) (Nat.le_of_ble_eq_true rfl) (fun v hp' hv _ _ => ?_) (fun E hp' zx _ _ => zx.elim)
      obtain ⟨rfl, rfl⟩ := hv
      show qq_Go _ hp 0 0 107 [(0, .ref 80), (1, .long d9), (3, .int w9)] [.int (r_X5_isSound S), .long (d9 * 31)] _ _
      refine qq_if_eq (tgt := 114) dX5_digest_107 (by decide) (fun zc2 => ?_) (fun zc2 => ?_)
      · refine qq_iconst (v := 0) dX5_digest_114 (by decide) ?_
        refine qq_i2l dX5_digest_115 ?_
        refine qq_ladd dX5_digest_116 ?_
        have ze : lr_X5_digest_74 (fu + 1) d9 w9 S = (d9 * 31) + ((0 : Int32).toInt64) := by
          rw [lr_X5_digest_74, if_pos zc1, if_pos zc2]
        exact qq_lret dX5_digest_117 rfl ⟨by rw [ze], rfl⟩
      · refine qq_iconst (v := 1) dX5_digest_110 (by decide) ?_
        refine qq_goto (tgt := 115) dX5_digest_111 (by decide) ?_
        refine qq_i2l dX5_digest_115 ?_
        refine qq_ladd dX5_digest_116 ?_
        have ze : lr_X5_digest_74 (fu + 1) d9 w9 S = (d9 * 31) + ((1 : Int32).toInt64) := by
          rw [lr_X5_digest_74, if_pos zc1, if_neg zc2]
        exact qq_lret dX5_digest_117 rfl ⟨by rw [ze], rfl⟩
    · refine qq_lload_n dX5_digest_79 rfl 1 rfl ?_
      refine qq_ldc2 (v := 31) dX5_digest_80 kl_X5_230 ?_
      refine qq_lmul dX5_digest_83 ?_
      refine qq_aload_n dX5_digest_84 rfl 0 rfl ?_
      refine qq_iload_n dX5_digest_85 rfl 2 rfl ?_
      refine qq_callV (bc := 0) (bs := 0) (mc := 0) (ms := 0) (o := 80) (ci := 2) (N := 6) (T := TX5) (as := [.int w9]) (rest := [.long (d9 * 31)]) dX5_digest_86 hS.2.2.1 (by decide) rfl (mo_X5_house hp S hS w9 (by first | assumption | exact ⟨by assumption, by assumption⟩ | exact qm_in8 (by assumption) (by assumption) | exact ⟨by assumption, qm_len (by assumption)⟩ | exact qm_in8d (by assumption) (by assumption) | decide)) rfl kl_X5_235 kn_X5_house ke_X5_house ki_X5 kc_X5_house kd_X5_house rfl (by decide) (by decide) (Nat.le_of_ble_eq_true rfl) (fun v hp' hv _ _ => ?_) (fun E hp' zx _ _ => zx.elim)
      obtain ⟨rfl, rfl⟩ := hv
      show qq_Go _ hp 0 0 89 [(0, .ref 80), (1, .long d9), (3, .int w9)] [.int (r_X5_house w9 S), .long (d9 * 31)] _ _
      refine qq_i2l dX5_digest_89 ?_
      refine qq_ladd dX5_digest_90 ?_
      refine qq_lstore_n (loc' := [(0, .ref 80), (1, .long ((d9 * 31) + ((r_X5_house w9 S).toInt64))), (3, .int w9)]) dX5_digest_91 rfl [1, 0, 2] (Nat.le_of_ble_eq_true rfl) rfl ?_
      refine qq_iinc (v := w9 + 1) (loc' := [(0, .ref 80), (1, .long ((d9 * 31) + ((r_X5_house w9 S).toInt64))), (3, .int (w9 + 1))]) dX5_digest_92 2 rfl rfl [1, 2, 0] (Nat.le_of_ble_eq_true rfl) rfl ?_
      refine qq_goto (tgt := 74) dX5_digest_95 (by decide) ?_
      have ze : lr_X5_digest_74 (fu + 1) d9 w9 S = lr_X5_digest_74 fu ((d9 * 31) + ((r_X5_house w9 S).toInt64)) (w9 + 1) S := by
        rw [lr_X5_digest_74, if_neg zc1]
      rw [ze]
      exact lq_X5_digest_74  fu ((d9 * 31) + ((r_X5_house w9 S).toInt64)) (w9 + 1) hp S hS (qm_posL zw9 (by assumption) (by decide)) (qm_upL (by assumption) (by decide) zh)
def lr_X5_digest_38 (i : Int32) (kx : Int64 → sX → Int64) : Nat → Int64 → Int32 → sX → Int64
  | 0, _, _, _ => 0
  | fu + 1, d9, j, S => if 8 ≤ j then kx d9 S else lr_X5_digest_38 i kx fu ((d9 * 31) + ((r_X5_order i j S).toInt64)) (j + 1) S
set_option maxRecDepth 4000 in
theorem lq_X5_digest_38 (i : Int32) (kx : Int64 → sX → Int64) (hkx : ∀ (d9 : Int64) (hp : qq_H) (S : sX), cs_X S hp →  qq_Go mX5_digest hp 0 0 66 [(0, .ref 80), (1, .long d9), (3, .int i)] [] (fun v hp' => v = some (.long (kx d9 S)) ∧ hp = hp') (fun _ _ => False))   : ∀ (fu : Nat) (d9 : Int64) (j : Int32) (hp : qq_H) (S : sX), cs_X S hp → ¬ j < 0 → ¬ i < 0 → ¬ 8 ≤ i → ((8 : Int32).toInt - j.toInt).toNat < fu → qq_Go mX5_digest hp 0 0 38 [(0, .ref 80), (1, .long d9), (3, .int i), (4, .int j)] [] (fun v hp' => v = some (.long (lr_X5_digest_38 i kx fu d9 j S)) ∧ hp = hp') (fun _ _ => False)
  | 0, _, _, hp, _, _, _, _, _, zz => absurd zz (Nat.not_lt_zero _)
  | fu + 1, d9, j, hp, S, hS, zj9, zi9, zi8, zh => by
    refine qq_iload dX5_digest_38 3 rfl ?_
    refine qq_bipush (v := 8) dX5_digest_40 (by decide) ?_
    refine qq_icmp_ge (tgt := 66) dX5_digest_42 (by decide) (fun zc1 => ?_) (fun zc1 => ?_)
    · have ze : lr_X5_digest_38 i kx (fu + 1) d9 j S = kx d9 S := by
        rw [lr_X5_digest_38, if_pos zc1]
      rw [ze]
      refine qq_loc [0, 1, 2] rfl ?_
      exact hkx d9 hp S hS 
    · refine qq_lload_n dX5_digest_45 rfl 1 rfl ?_
      refine qq_ldc2 (v := 31) dX5_digest_46 kl_X5_230 ?_
      refine qq_lmul dX5_digest_49 ?_
      refine qq_aload_n dX5_digest_50 rfl 0 rfl ?_
      refine qq_iload_n dX5_digest_51 rfl 2 rfl ?_
      refine qq_iload dX5_digest_52 3 rfl ?_
      refine qq_callV (bc := 0) (bs := 0) (mc := 0) (ms := 0) (o := 80) (ci := 2) (N := 6) (T := TX5) (as := [.int i, .int j]) (rest := [.long (d9 * 31)]) dX5_digest_54 hS.2.2.1 (by decide) rfl (mo_X5_order hp S hS i j (by first | assumption | exact ⟨by assumption, by assumption⟩ | exact qm_in8 (by assumption) (by assumption) | exact ⟨by assumption, qm_len (by assumption)⟩ | exact qm_in8d (by assumption) (by assumption) | decide) (by first | assumption | exact ⟨by assumption, by assumption⟩ | exact qm_in8 (by assumption) (by assumption) | exact ⟨by assumption, qm_len (by assumption)⟩ | exact qm_in8d (by assumption) (by assumption) | decide)) rfl kl_X5_232 kn_X5_order ke_X5_order ki_X5 kc_X5_order kd_X5_order rfl (by decide) (by decide) (Nat.le_of_ble_eq_true rfl) (fun v hp' hv _ _ => ?_) (fun E hp' zx _ _ => zx.elim)
      obtain ⟨rfl, rfl⟩ := hv
      show qq_Go _ hp 0 0 57 [(0, .ref 80), (1, .long d9), (3, .int i), (4, .int j)] [.int (r_X5_order i j S), .long (d9 * 31)] _ _
      refine qq_i2l dX5_digest_57 ?_
      refine qq_ladd dX5_digest_58 ?_
      refine qq_lstore_n (loc' := [(0, .ref 80), (1, .long ((d9 * 31) + ((r_X5_order i j S).toInt64))), (3, .int i), (4, .int j)]) dX5_digest_59 rfl [1, 0, 2, 3] (Nat.le_of_ble_eq_true rfl) rfl ?_
      refine qq_iinc (v := j + 1) (loc' := [(0, .ref 80), (1, .long ((d9 * 31) + ((r_X5_order i j S).toInt64))), (3, .int i), (4, .int (j + 1))]) dX5_digest_60 3 rfl rfl [1, 2, 3, 0] (Nat.le_of_ble_eq_true rfl) rfl ?_
      refine qq_goto (tgt := 38) dX5_digest_63 (by decide) ?_
      have ze : lr_X5_digest_38 i kx (fu + 1) d9 j S = lr_X5_digest_38 i kx fu ((d9 * 31) + ((r_X5_order i j S).toInt64)) (j + 1) S := by
        rw [lr_X5_digest_38, if_neg zc1]
      rw [ze]
      exact lq_X5_digest_38 i kx hkx fu ((d9 * 31) + ((r_X5_order i j S).toInt64)) (j + 1) hp S hS (qm_pos zj9 (by assumption)) zi9 zi8 (qm_up (by assumption) zh)
def lr_X5_digest_27  : Nat → Int64 → Int32 → sX → Int64
  | 0, _, _, _ => 0
  | fu + 1, d9, i, S => if 8 ≤ i then lr_X5_digest_74 6 d9 (0 : Int32) S else lr_X5_digest_38 i (fun d99 Sk => lr_X5_digest_27 fu d99 (i + 1) Sk) 9 d9 (i + 1) S
set_option maxRecDepth 4000 in
theorem lq_X5_digest_27    : ∀ (fu : Nat) (d9 : Int64) (i : Int32) (hp : qq_H) (S : sX), cs_X S hp → ¬ i < 0 → ((8 : Int32).toInt - i.toInt).toNat < fu → qq_Go mX5_digest hp 0 0 27 [(0, .ref 80), (1, .long d9), (3, .int i)] [] (fun v hp' => v = some (.long (lr_X5_digest_27 fu d9 i S)) ∧ hp = hp') (fun _ _ => False)
  | 0, _, _, hp, _, _, _, zz => absurd zz (Nat.not_lt_zero _)
  | fu + 1, d9, i, hp, S, hS, zp, zh => by
    refine qq_iload_n dX5_digest_27 rfl 2 rfl ?_
    refine qq_bipush (v := 8) dX5_digest_28 (by decide) ?_
    refine qq_icmp_ge (tgt := 72) dX5_digest_30 (by decide) (fun zc1 => ?_) (fun zc1 => ?_)
    · refine qq_iconst (v := 0) dX5_digest_72 (by decide) ?_
      refine qq_istore_n (loc' := [(0, .ref 80), (1, .long d9), (3, .int 0)]) dX5_digest_73 rfl [1, 2, 0] (Nat.le_of_ble_eq_true rfl) rfl ?_
      have ze : lr_X5_digest_27 (fu + 1) d9 i S = lr_X5_digest_74 6 d9 (0 : Int32) S := by
        rw [lr_X5_digest_27, if_pos zc1]
      rw [ze]
      exact lq_X5_digest_74  6 d9 (0 : Int32) hp S hS (by decide) (by decide)
    · refine qq_iload_n dX5_digest_33 rfl 2 rfl ?_
      refine qq_iconst (v := 1) dX5_digest_34 (by decide) ?_
      refine qq_iadd dX5_digest_35 ?_
      refine qq_istore (loc' := [(0, .ref 80), (1, .long d9), (3, .int i), (4, .int (i + 1))]) dX5_digest_36 [1, 2, 3, 0] (Nat.le_of_ble_eq_true rfl) rfl ?_
      have ze : lr_X5_digest_27 (fu + 1) d9 i S = lr_X5_digest_38 i (fun d99 Sk => lr_X5_digest_27 fu d99 (i + 1) Sk) 9 d9 (i + 1) S := by
        rw [lr_X5_digest_27, if_neg zc1]
      rw [ze]
      exact lq_X5_digest_38 i (fun d99 Sk => lr_X5_digest_27 fu d99 (i + 1) Sk) (fun d99 hpk Sk hSk => by
          refine qq_iinc (v := i + 1) (loc' := [(0, .ref 80), (1, .long d99), (3, .int (i + 1))]) dX5_digest_66 2 rfl rfl [1, 2, 0] (Nat.le_of_ble_eq_true rfl) rfl ?_
          refine qq_goto (tgt := 27) dX5_digest_69 (by decide) ?_
          exact lq_X5_digest_27  fu d99 (i + 1) hpk Sk hSk (qm_pos zp (by assumption)) (qm_up (by assumption) zh)) 9 d9 (i + 1) hp S hS (qm_pos (by assumption) (by assumption)) (by assumption) (by assumption) (qm_fu (qm_pos (by assumption) (by assumption)))
def lr_X5_digest_6  : Nat → Int64 → Int32 → sX → Int64
  | 0, _, _, _ => 0
  | fu + 1, d9, i, S => if 8 ≤ i then lr_X5_digest_27 9 d9 (0 : Int32) S else lr_X5_digest_6 fu (r_X5_digestCell d9 i S) (i + 1) S
set_option maxRecDepth 4000 in
theorem lq_X5_digest_6    : ∀ (fu : Nat) (d9 : Int64) (i : Int32) (hp : qq_H) (S : sX), cs_X S hp → ¬ i < 0 → ((8 : Int32).toInt - i.toInt).toNat < fu → qq_Go mX5_digest hp 0 0 6 [(0, .ref 80), (1, .long d9), (3, .int i)] [] (fun v hp' => v = some (.long (lr_X5_digest_6 fu d9 i S)) ∧ hp = hp') (fun _ _ => False)
  | 0, _, _, hp, _, _, _, zz => absurd zz (Nat.not_lt_zero _)
  | fu + 1, d9, i, hp, S, hS, zp, zh => by
    refine qq_iload_n dX5_digest_6 rfl 2 rfl ?_
    refine qq_bipush (v := 8) dX5_digest_7 (by decide) ?_
    refine qq_icmp_ge (tgt := 25) dX5_digest_9 (by decide) (fun zc1 => ?_) (fun zc1 => ?_)
    · refine qq_iconst (v := 0) dX5_digest_25 (by decide) ?_
      refine qq_istore_n (loc' := [(0, .ref 80), (1, .long d9), (3, .int 0)]) dX5_digest_26 rfl [1, 2, 0] (Nat.le_of_ble_eq_true rfl) rfl ?_
      have ze : lr_X5_digest_6 (fu + 1) d9 i S = lr_X5_digest_27 9 d9 (0 : Int32) S := by
        rw [lr_X5_digest_6, if_pos zc1]
      rw [ze]
      exact lq_X5_digest_27  9 d9 (0 : Int32) hp S hS (by decide) (by decide)
    · refine qq_aload_n dX5_digest_12 rfl 0 rfl ?_
      refine qq_lload_n dX5_digest_13 rfl 1 rfl ?_
      refine qq_iload_n dX5_digest_14 rfl 2 rfl ?_
      refine qq_callV (bc := 0) (bs := 0) (mc := 0) (ms := 0) (o := 80) (ci := 2) (N := 6) (T := TX5) (as := [.long d9, .int i]) (rest := []) dX5_digest_15 hS.2.2.1 (by decide) rfl (mt_X5_digestCell hp S hS d9 i (by first | assumption | exact ⟨by assumption, by assumption⟩ | exact qm_in8 (by assumption) (by assumption) | exact ⟨by assumption, qm_len (by assumption)⟩ | exact qm_in8d (by assumption) (by assumption) | decide)) rfl kl_X5_227 kn_X5_digestCell ke_X5_digestCell ki_X5 kc_X5_digestCell kd_X5_digestCell rfl (by decide) (by decide) (Nat.le_of_ble_eq_true rfl) (fun v hp' hv _ _ => ?_) (fun E hp' zx _ _ => zx.elim)
      obtain ⟨rfl, rfl⟩ := hv
      show qq_Go _ hp 0 0 18 [(0, .ref 80), (1, .long d9), (3, .int i)] [.long (r_X5_digestCell d9 i S)] _ _
      refine qq_lstore_n (loc' := [(0, .ref 80), (1, .long (r_X5_digestCell d9 i S)), (3, .int i)]) dX5_digest_18 rfl [1, 0, 2] (Nat.le_of_ble_eq_true rfl) rfl ?_
      refine qq_iinc (v := i + 1) (loc' := [(0, .ref 80), (1, .long (r_X5_digestCell d9 i S)), (3, .int (i + 1))]) dX5_digest_19 2 rfl rfl [1, 2, 0] (Nat.le_of_ble_eq_true rfl) rfl ?_
      refine qq_goto (tgt := 6) dX5_digest_22 (by decide) ?_
      have ze : lr_X5_digest_6 (fu + 1) d9 i S = lr_X5_digest_6 fu (r_X5_digestCell d9 i S) (i + 1) S := by
        rw [lr_X5_digest_6, if_neg zc1]
      rw [ze]
      exact lq_X5_digest_6  fu (r_X5_digestCell d9 i S) (i + 1) hp S hS (qm_pos zp (by assumption)) (qm_up (by assumption) zh)
def r_X5_digest  (S : sX) : Int64 := lr_X5_digest_6 9 (7896 : Int64) (0 : Int32) S
set_option maxRecDepth 4000 in
theorem mt_X5_digest (hp : qq_H) (S : sX) (hS : cs_X S hp)   : qq_Mt mX5_digest [.ref 80] hp 0 0 (fun v hp' => v = some (.long (r_X5_digest S)) ∧ hp = hp') (fun _ _ => False) := by
  refine qq_met pn_X5 (Nat.le_of_ble_eq_true rfl) (Nat.le_of_ble_eq_true rfl) kc_X5_digest ?_
  show qq_Go _ hp 0 0 0 [(0, .ref 80)] [] _ _
  refine qq_ldc2 (v := 7896) dX5_digest_0 kl_X5_225 ?_
  refine qq_lstore_n (loc' := [(0, .ref 80), (1, .long 7896)]) dX5_digest_3 rfl [1, 0] (Nat.le_of_ble_eq_true rfl) rfl ?_
  refine qq_iconst (v := 0) dX5_digest_4 (by decide) ?_
  refine qq_istore_n (loc' := [(0, .ref 80), (1, .long 7896), (3, .int 0)]) dX5_digest_5 rfl [1, 2, 0] (Nat.le_of_ble_eq_true rfl) rfl ?_
  have ze : r_X5_digest S = lr_X5_digest_6 9 (7896 : Int64) (0 : Int32) S := by
    rw [r_X5_digest]
  rw [ze]
  exact lq_X5_digest_6  9 (7896 : Int64) (0 : Int32) hp S hS (by decide) (by decide)