def lr_X5_rises_28 (how : Int32) (from9 : Int32) (to9 : Int32) : Nat → Int32 → sX → Int32
  | 0, _, _ => 0
  | fu + 1, q9, S => if to9 ≤ q9 then 1 else if (f_X1_compare (f_X4_digitsAt how q9) (f_X4_digitsAt how (q9 + 1))) < 0 then lr_X5_rises_28 how from9 to9 fu (q9 + 1) S else 0
theorem bzl_X5_rises_28 (how : Int32) (from9 : Int32) (to9 : Int32) : ∀ (fu : Nat) (q9 : Int32) (S : sX), lr_X5_rises_28 how from9 to9 fu q9 S = 0 ∨ lr_X5_rises_28 how from9 to9 fu q9 S = 1
  | 0, q9, S => Or.inl rfl
  | fu + 1, q9, S => by
    unfold lr_X5_rises_28
    exact (qq_i01 (Or.inr rfl) (qq_i01 (bzl_X5_rises_28 how from9 to9 fu (q9 + 1) S) (Or.inl rfl)))
set_option maxRecDepth 4000 in
theorem lq_X5_rises_28 (how : Int32) (from9 : Int32) (to9 : Int32) (zq0 : ¬ how < 0 ∧ ¬ 3 < how) (zq1 : ¬ from9 < (f_X4_firstQ how) ∧ ¬ (f_X4_lastQ how) < from9) (zq2 : ¬ to9 < from9 ∧ ¬ (f_X4_lastQ how) < to9)  : ∀ (fu : Nat) (q9 : Int32) (hp : qq_H) (S : sX), cs_X S hp → (to9.toInt - q9.toInt).toNat < fu → qq_Go mX5_rises hp 0 0 28 [(0, .ref 80), (1, .int how), (2, .int from9), (3, .int to9), (4, .int q9)] [] (fun v hp' => v = some (.int (lr_X5_rises_28 how from9 to9 fu q9 S)) ∧ hp = hp' ∧ (¬ how < 0 ∧ ¬ 3 < how) ∧ (¬ from9 < (f_X4_firstQ how) ∧ ¬ (f_X4_lastQ how) < from9) ∧ (¬ to9 < from9 ∧ ¬ (f_X4_lastQ how) < to9)) (fun _ _ => False)
  | 0, _, hp, _, _, zz => absurd zz (Nat.not_lt_zero _)
  | fu + 1, q9, hp, S, hS, zh => by
    have zq01 := zq0.1
    have zq02 := zq0.2
    have zq11 := zq1.1
    have zq12 := zq1.2
    have zq21 := zq2.1
    have zq22 := zq2.2
    refine qq_iload dX5_rises_28 4 rfl ?_
    refine qq_iload_n dX5_rises_30 rfl 3 rfl ?_
    refine qq_icmp_ge (tgt := 62) dX5_rises_31 (by decide) (fun zc1 => ?_) (fun zc1 => ?_)
    · refine qq_iconst (v := 1) dX5_rises_62 (by decide) ?_
      have ze : lr_X5_rises_28 how from9 to9 (fu + 1) q9 S = 1 := by
        rw [lr_X5_rises_28, if_pos zc1]
      exact qq_iret dX5_rises_63 rfl rfl ⟨by rw [ze], rfl, zq0, zq1, zq2⟩
    · refine qq_iload_n dX5_rises_34 rfl 1 rfl ?_
      refine qq_iload dX5_rises_35 4 rfl ?_
      refine qq_callS (bc := 0) (bs := 0) (mc := 0) (ms := 0) (as := [.int how, .int q9]) (rest := []) dX5_rises_37 (mt_X4_digitsAt hp how q9 hS.1) rfl kl_X5_161 ks_X4_digitsAt ki_X4 kc_X4_digitsAt kd_X4_digitsAt rfl (by decide) (by decide) (Nat.le_of_ble_eq_true rfl) (fun v hp' hv _ _ => ?_) (fun E hp' zx _ _ => zx.elim)
      obtain ⟨rfl, rfl⟩ := hv
      show qq_Go _ hp 0 0 40 [(0, .ref 80), (1, .int how), (2, .int from9), (3, .int to9), (4, .int q9)] [.long (f_X4_digitsAt how q9)] _ _
      refine qq_iload_n dX5_rises_40 rfl 1 rfl ?_
      refine qq_iload dX5_rises_41 4 rfl ?_
      refine qq_iconst (v := 1) dX5_rises_43 (by decide) ?_
      refine qq_iadd dX5_rises_44 ?_
      refine qq_callS (bc := 0) (bs := 0) (mc := 0) (ms := 0) (as := [.int how, .int (q9 + 1)]) (rest := [.long (f_X4_digitsAt how q9)]) dX5_rises_45 (mt_X4_digitsAt hp how (q9 + 1) hS.1) rfl kl_X5_161 ks_X4_digitsAt ki_X4 kc_X4_digitsAt kd_X4_digitsAt rfl (by decide) (by decide) (Nat.le_of_ble_eq_true rfl) (fun v hp' hv _ _ => ?_) (fun E hp' zx _ _ => zx.elim)
      obtain ⟨rfl, rfl⟩ := hv
      show qq_Go _ hp 0 0 48 [(0, .ref 80), (1, .int how), (2, .int from9), (3, .int to9), (4, .int q9)] [.long (f_X4_digitsAt how (q9 + 1)), .long (f_X4_digitsAt how q9)] _ _
      refine qq_callS (bc := 0) (bs := 0) (mc := 0) (ms := 0) (as := [.long (f_X4_digitsAt how q9), .long (f_X4_digitsAt how (q9 + 1))]) (rest := []) dX5_rises_48 (mt_X1_compare hp (f_X4_digitsAt how q9) (f_X4_digitsAt how (q9 + 1))) rfl kl_X5_170 ks_X1_compare ki_X1 kc_X1_compare kd_X1_compare rfl (by decide) (by decide) (Nat.le_of_ble_eq_true rfl) (fun v hp' hv _ _ => ?_) (fun E hp' zx _ _ => zx.elim)
      obtain ⟨rfl, rfl⟩ := hv
      show qq_Go _ hp 0 0 51 [(0, .ref 80), (1, .int how), (2, .int from9), (3, .int to9), (4, .int q9)] [.int (f_X1_compare (f_X4_digitsAt how q9) (f_X4_digitsAt how (q9 + 1)))] _ _
      refine qq_if_lt (tgt := 56) dX5_rises_51 (by decide) (fun zc2 => ?_) (fun zc2 => ?_)
      · refine qq_iinc (v := q9 + 1) (loc' := [(0, .ref 80), (1, .int how), (2, .int from9), (3, .int to9), (4, .int (q9 + 1))]) dX5_rises_56 4 rfl rfl [1, 2, 3, 4, 0] (Nat.le_of_ble_eq_true rfl) rfl ?_
        refine qq_goto (tgt := 28) dX5_rises_59 (by decide) ?_
        have ze : lr_X5_rises_28 how from9 to9 (fu + 1) q9 S = lr_X5_rises_28 how from9 to9 fu (q9 + 1) S := by
          rw [lr_X5_rises_28, if_neg zc1, if_pos zc2]
        rw [ze]
        exact lq_X5_rises_28 how from9 to9 zq0 zq1 zq2 fu (q9 + 1) hp S hS (qm_up (by assumption) zh)
      · refine qq_iconst (v := 0) dX5_rises_54 (by decide) ?_
        have ze : lr_X5_rises_28 how from9 to9 (fu + 1) q9 S = 0 := by
          rw [lr_X5_rises_28, if_neg zc1, if_neg zc2]
        exact qq_iret dX5_rises_55 rfl rfl ⟨by rw [ze], rfl, zq0, zq1, zq2⟩
def r_X5_rises (how : Int32) (from9 : Int32) (to9 : Int32) (S : sX) : Int32 := lr_X5_rises_28 how from9 to9 ((to9.toInt - from9.toInt).toNat + 1) from9 S
theorem bz_X5_rises (how : Int32) (from9 : Int32) (to9 : Int32) (S : sX) : r_X5_rises how from9 to9 S = 0 ∨ r_X5_rises how from9 to9 S = 1 := by
  unfold r_X5_rises
  exact (bzl_X5_rises_28 how from9 to9 ((to9.toInt - from9.toInt).toNat + 1) from9 S)
set_option maxRecDepth 4000 in
theorem mt_X5_rises (hp : qq_H) (S : sX) (hS : cs_X S hp) (how : Int32) (from9 : Int32) (to9 : Int32)  : qq_Mt mX5_rises [.ref 80, .int how, .int from9, .int to9] hp 3 18 (fun v hp' => v = some (.int (r_X5_rises how from9 to9 S)) ∧ hp = hp' ∧ (¬ how < 0 ∧ ¬ 3 < how) ∧ (¬ from9 < (f_X4_firstQ how) ∧ ¬ (f_X4_lastQ how) < from9) ∧ (¬ to9 < from9 ∧ ¬ (f_X4_lastQ how) < to9)) (fun E hp' => hp = hp' ∧ ((E = "java/lang/IllegalArgumentException" ∧ (how < 0 ∨ 3 < how)) ∨ (E = "java/lang/IllegalArgumentException" ∧ (¬ how < 0 ∧ ¬ 3 < how) ∧ (from9 < (f_X4_firstQ how) ∨ (f_X4_lastQ how) < from9)) ∨ (E = "java/lang/IllegalArgumentException" ∧ (¬ how < 0 ∧ ¬ 3 < how) ∧ (¬ from9 < (f_X4_firstQ how) ∧ ¬ (f_X4_lastQ how) < from9) ∧ (to9 < from9 ∨ (f_X4_lastQ how) < to9)))) := by
  refine qq_met pn_X5 (Nat.le_of_ble_eq_true rfl) (Nat.le_of_ble_eq_true rfl) kc_X5_rises ?_
  show qq_Go _ hp 3 18 0 [(0, .ref 80), (1, .int how), (2, .int from9), (3, .int to9)] [] _ _
  refine qq_iload_n dX5_rises_0 rfl 1 rfl ?_
  refine qq_callS (bc := 2) (bs := 12) (mc := 1) (ms := 6) (as := [.int how]) (rest := []) dX5_rises_1 (mt_X5_checkSeries hp how ) rfl kl_X5_146 ks_X5_checkSeries ki_X5 kc_X5_checkSeries kd_X5_checkSeries rfl (by decide) (by decide) (Nat.le_of_ble_eq_true rfl) (fun v hp' hv _ _ => ?_) (fun E hp' zx _ _ => by obtain ⟨rfl, rfl, zf⟩ := zx; exact qq_thr rfl ⟨rfl, (Or.inl ⟨rfl, zf⟩)⟩)
  obtain ⟨rfl, rfl, zg1⟩ := hv
  have zg11 := zg1.1
  have zg12 := zg1.2
  show qq_Go _ hp 2 12 4 [(0, .ref 80), (1, .int how), (2, .int from9), (3, .int to9)] [] _ _
  refine qq_iload_n dX5_rises_4 rfl 2 rfl ?_
  refine qq_iload_n dX5_rises_5 rfl 1 rfl ?_
  refine qq_callS (bc := 2) (bs := 12) (mc := 0) (ms := 0) (as := [.int how]) (rest := [.int from9]) dX5_rises_6 (mt_X4_firstQ hp how) rfl kl_X5_155 ks_X4_firstQ ki_X4 kc_X4_firstQ kd_X4_firstQ rfl (by decide) (by decide) (Nat.le_of_ble_eq_true rfl) (fun v hp' hv _ _ => ?_) (fun E hp' zx _ _ => zx.elim)
  obtain ⟨rfl, rfl⟩ := hv
  show qq_Go _ hp 2 12 9 [(0, .ref 80), (1, .int how), (2, .int from9), (3, .int to9)] [.int (f_X4_firstQ how), .int from9] _ _
  refine qq_iload_n dX5_rises_9 rfl 1 rfl ?_
  refine qq_callS (bc := 2) (bs := 12) (mc := 0) (ms := 0) (as := [.int how]) (rest := [.int (f_X4_firstQ how), .int from9]) dX5_rises_10 (mt_X4_lastQ hp how) rfl kl_X5_158 ks_X4_lastQ ki_X4 kc_X4_lastQ kd_X4_lastQ rfl (by decide) (by decide) (Nat.le_of_ble_eq_true rfl) (fun v hp' hv _ _ => ?_) (fun E hp' zx _ _ => zx.elim)
  obtain ⟨rfl, rfl⟩ := hv
  show qq_Go _ hp 2 12 13 [(0, .ref 80), (1, .int how), (2, .int from9), (3, .int to9)] [.int (f_X4_lastQ how), .int (f_X4_firstQ how), .int from9] _ _
  refine qq_callS (bc := 1) (bs := 6) (mc := 1) (ms := 6) (as := [.int from9, .int (f_X4_firstQ how), .int (f_X4_lastQ how)]) (rest := []) dX5_rises_13 (mt_X5_checkRange hp from9 (f_X4_firstQ how) (f_X4_lastQ how) ) rfl kl_X5_36 ks_X5_checkRange ki_X5 kc_X5_checkRange kd_X5_checkRange rfl (by decide) (by decide) (Nat.le_of_ble_eq_true rfl) (fun v hp' hv _ _ => ?_) (fun E hp' zx _ _ => by obtain ⟨rfl, rfl, zf⟩ := zx; exact qq_thr rfl ⟨rfl, (Or.inr (Or.inl ⟨rfl, zg1, zf⟩))⟩)
  obtain ⟨rfl, rfl, zg2⟩ := hv
  have zg21 := zg2.1
  have zg22 := zg2.2
  show qq_Go _ hp 1 6 16 [(0, .ref 80), (1, .int how), (2, .int from9), (3, .int to9)] [] _ _
  refine qq_iload_n dX5_rises_16 rfl 3 rfl ?_
  refine qq_iload_n dX5_rises_17 rfl 2 rfl ?_
  refine qq_iload_n dX5_rises_18 rfl 1 rfl ?_
  refine qq_callS (bc := 1) (bs := 6) (mc := 0) (ms := 0) (as := [.int how]) (rest := [.int from9, .int to9]) dX5_rises_19 (mt_X4_lastQ hp how) rfl kl_X5_158 ks_X4_lastQ ki_X4 kc_X4_lastQ kd_X4_lastQ rfl (by decide) (by decide) (Nat.le_of_ble_eq_true rfl) (fun v hp' hv _ _ => ?_) (fun E hp' zx _ _ => zx.elim)
  obtain ⟨rfl, rfl⟩ := hv
  show qq_Go _ hp 1 6 22 [(0, .ref 80), (1, .int how), (2, .int from9), (3, .int to9)] [.int (f_X4_lastQ how), .int from9, .int to9] _ _
  refine qq_callS (bc := 0) (bs := 0) (mc := 1) (ms := 6) (as := [.int to9, .int from9, .int (f_X4_lastQ how)]) (rest := []) dX5_rises_22 (mt_X5_checkRange hp to9 from9 (f_X4_lastQ how) ) rfl kl_X5_36 ks_X5_checkRange ki_X5 kc_X5_checkRange kd_X5_checkRange rfl (by decide) (by decide) (Nat.le_of_ble_eq_true rfl) (fun v hp' hv _ _ => ?_) (fun E hp' zx _ _ => by obtain ⟨rfl, rfl, zf⟩ := zx; exact qq_thr rfl ⟨rfl, (Or.inr (Or.inr ⟨rfl, zg1, zg2, zf⟩))⟩)
  obtain ⟨rfl, rfl, zg3⟩ := hv
  have zg31 := zg3.1
  have zg32 := zg3.2
  show qq_Go _ hp 0 0 25 [(0, .ref 80), (1, .int how), (2, .int from9), (3, .int to9)] [] _ _
  refine qq_iload_n dX5_rises_25 rfl 2 rfl ?_
  refine qq_istore (loc' := [(0, .ref 80), (1, .int how), (2, .int from9), (3, .int to9), (4, .int from9)]) dX5_rises_26 [1, 2, 3, 4, 0] (Nat.le_of_ble_eq_true rfl) rfl ?_
  have ze : r_X5_rises how from9 to9 S = lr_X5_rises_28 how from9 to9 ((to9.toInt - from9.toInt).toNat + 1) from9 S := by
    rw [r_X5_rises]
  rw [ze]
  have zk := lq_X5_rises_28 how from9 to9 zg1 zg2 zg3 ((to9.toInt - from9.toInt).toNat + 1) from9 hp S hS (Nat.lt_succ_self _)
  exact qq_post (fun v hq z => z) (fun _ _ z => z.elim) zk
def lr_X5_nearPairs_14 (i : Int32) (kx : Int32 → sX → Int32) : Nat → Int32 → Int32 → sX → Int32
  | 0, _, _, _ => 0
  | fu + 1, n, j, S => if 8 ≤ j then kx n S else if (f_X2_areNear (S.1 i.toNatClampNeg) (S.1 j.toNatClampNeg)) = 0 then lr_X5_nearPairs_14 i kx fu n (j + 1) S else lr_X5_nearPairs_14 i kx fu (n + 1) (j + 1) S
set_option maxRecDepth 4000 in
theorem lq_X5_nearPairs_14 (i : Int32) (kx : Int32 → sX → Int32) (hkx : ∀ (n : Int32) (hp : qq_H) (S : sX), cs_X S hp →  qq_Go mX5_nearPairs hp 0 0 47 [(0, .ref 80), (1, .int n), (2, .int i)] [] (fun v hp' => v = some (.int (kx n S)) ∧ hp = hp') (fun _ _ => False))   : ∀ (fu : Nat) (n : Int32) (j : Int32) (hp : qq_H) (S : sX), cs_X S hp → ¬ j < 0 → ¬ i < 0 → ¬ 8 ≤ i → ((8 : Int32).toInt - j.toInt).toNat < fu → qq_Go mX5_nearPairs hp 0 0 14 [(0, .ref 80), (1, .int n), (2, .int i), (3, .int j)] [] (fun v hp' => v = some (.int (lr_X5_nearPairs_14 i kx fu n j S)) ∧ hp = hp') (fun _ _ => False)
  | 0, _, _, hp, _, _, _, _, _, zz => absurd zz (Nat.not_lt_zero _)
  | fu + 1, n, j, hp, S, hS, zj9, zi9, zi8, zh => by
    refine qq_iload_n dX5_nearPairs_14 rfl 3 rfl ?_
    refine qq_bipush (v := 8) dX5_nearPairs_15 (by decide) ?_
    refine qq_icmp_ge (tgt := 47) dX5_nearPairs_17 (by decide) (fun zc1 => ?_) (fun zc1 => ?_)
    · have ze : lr_X5_nearPairs_14 i kx (fu + 1) n j S = kx n S := by
        rw [lr_X5_nearPairs_14, if_pos zc1]
      rw [ze]
      refine qq_loc [0, 1, 2] rfl ?_
      exact hkx n hp S hS 
    · refine qq_aload_n dX5_nearPairs_20 rfl 0 rfl ?_
      refine cx_get hS dX5_nearPairs_21 0 (by decide) rfl kl_X5_9 ?_
      refine qq_iload_n dX5_nearPairs_24 rfl 2 rfl ?_
      refine qq_iald dX5_nearPairs_25 hS.2.2.2.1 (by first | assumption | exact qm_in8 (by assumption) (by assumption) | exact qm_in8d (by assumption) (by assumption) | decide) ?_
      refine qq_aload_n dX5_nearPairs_26 rfl 0 rfl ?_
      refine cx_get hS dX5_nearPairs_27 0 (by decide) rfl kl_X5_9 ?_
      refine qq_iload_n dX5_nearPairs_30 rfl 3 rfl ?_
      refine qq_iald dX5_nearPairs_31 hS.2.2.2.1 (by first | assumption | exact qm_in8 (by assumption) (by assumption) | exact qm_in8d (by assumption) (by assumption) | decide) ?_
      refine qq_callS (bc := 0) (bs := 0) (mc := 0) (ms := 0) (as := [.int (S.1 i.toNatClampNeg), .int (S.1 j.toNatClampNeg)]) (rest := []) dX5_nearPairs_32 (mt_X2_areNear hp (S.1 i.toNatClampNeg) (S.1 j.toNatClampNeg)) rfl kl_X5_133 ks_X2_areNear ki_X2 kc_X2_areNear kd_X2_areNear rfl (by decide) (by decide) (Nat.le_of_ble_eq_true rfl) (fun v hp' hv _ _ => ?_) (fun E hp' zx _ _ => zx.elim)
      obtain ⟨rfl, rfl⟩ := hv
      show qq_Go _ hp 0 0 35 [(0, .ref 80), (1, .int n), (2, .int i), (3, .int j)] [.int (f_X2_areNear (S.1 i.toNatClampNeg) (S.1 j.toNatClampNeg))] _ _
      refine qq_if_eq (tgt := 41) dX5_nearPairs_35 (by decide) (fun zc2 => ?_) (fun zc2 => ?_)
      · refine qq_iinc (v := j + 1) (loc' := [(0, .ref 80), (1, .int n), (2, .int i), (3, .int (j + 1))]) dX5_nearPairs_41 3 rfl rfl [1, 2, 3, 0] (Nat.le_of_ble_eq_true rfl) rfl ?_
        refine qq_goto (tgt := 14) dX5_nearPairs_44 (by decide) ?_
        have ze : lr_X5_nearPairs_14 i kx (fu + 1) n j S = lr_X5_nearPairs_14 i kx fu n (j + 1) S := by
          rw [lr_X5_nearPairs_14, if_neg zc1, if_pos zc2]
        rw [ze]
        exact lq_X5_nearPairs_14 i kx hkx fu n (j + 1) hp S hS (qm_pos zj9 (by assumption)) zi9 zi8 (qm_up (by assumption) zh)
      · refine qq_iinc (v := n + 1) (loc' := [(0, .ref 80), (1, .int (n + 1)), (2, .int i), (3, .int j)]) dX5_nearPairs_38 1 rfl rfl [1, 0, 2, 3] (Nat.le_of_ble_eq_true rfl) rfl ?_
        refine qq_iinc (v := j + 1) (loc' := [(0, .ref 80), (1, .int (n + 1)), (2, .int i), (3, .int (j + 1))]) dX5_nearPairs_41 3 rfl rfl [1, 2, 3, 0] (Nat.le_of_ble_eq_true rfl) rfl ?_
        refine qq_goto (tgt := 14) dX5_nearPairs_44 (by decide) ?_
        have ze : lr_X5_nearPairs_14 i kx (fu + 1) n j S = lr_X5_nearPairs_14 i kx fu (n + 1) (j + 1) S := by
          rw [lr_X5_nearPairs_14, if_neg zc1, if_neg zc2]
        rw [ze]
        exact lq_X5_nearPairs_14 i kx hkx fu (n + 1) (j + 1) hp S hS (qm_pos zj9 (by assumption)) zi9 zi8 (qm_up (by assumption) zh)
def lr_X5_nearPairs_4  : Nat → Int32 → Int32 → sX → Int32
  | 0, _, _, _ => 0
  | fu + 1, n, i, S => if 8 ≤ i then n else lr_X5_nearPairs_14 i (fun n9 Sk => lr_X5_nearPairs_4 fu n9 (i + 1) Sk) 9 n (i + 1) S
set_option maxRecDepth 4000 in
theorem lq_X5_nearPairs_4    : ∀ (fu : Nat) (n : Int32) (i : Int32) (hp : qq_H) (S : sX), cs_X S hp → ¬ i < 0 → ((8 : Int32).toInt - i.toInt).toNat < fu → qq_Go mX5_nearPairs hp 0 0 4 [(0, .ref 80), (1, .int n), (2, .int i)] [] (fun v hp' => v = some (.int (lr_X5_nearPairs_4 fu n i S)) ∧ hp = hp') (fun _ _ => False)
  | 0, _, _, hp, _, _, _, zz => absurd zz (Nat.not_lt_zero _)
  | fu + 1, n, i, hp, S, hS, zp, zh => by
    refine qq_iload_n dX5_nearPairs_4 rfl 2 rfl ?_
    refine qq_bipush (v := 8) dX5_nearPairs_5 (by decide) ?_
    refine qq_icmp_ge (tgt := 53) dX5_nearPairs_7 (by decide) (fun zc1 => ?_) (fun zc1 => ?_)
    · refine qq_iload_n dX5_nearPairs_53 rfl 1 rfl ?_
      have ze : lr_X5_nearPairs_4 (fu + 1) n i S = n := by
        rw [lr_X5_nearPairs_4, if_pos zc1]
      exact qq_iret dX5_nearPairs_54 rfl rfl ⟨by rw [ze], rfl⟩
    · refine qq_iload_n dX5_nearPairs_10 rfl 2 rfl ?_
      refine qq_iconst (v := 1) dX5_nearPairs_11 (by decide) ?_
      refine qq_iadd dX5_nearPairs_12 ?_
      refine qq_istore_n (loc' := [(0, .ref 80), (1, .int n), (2, .int i), (3, .int (i + 1))]) dX5_nearPairs_13 rfl [1, 2, 3, 0] (Nat.le_of_ble_eq_true rfl) rfl ?_
      have ze : lr_X5_nearPairs_4 (fu + 1) n i S = lr_X5_nearPairs_14 i (fun n9 Sk => lr_X5_nearPairs_4 fu n9 (i + 1) Sk) 9 n (i + 1) S := by
        rw [lr_X5_nearPairs_4, if_neg zc1]
      rw [ze]
      exact lq_X5_nearPairs_14 i (fun n9 Sk => lr_X5_nearPairs_4 fu n9 (i + 1) Sk) (fun n9 hpk Sk hSk => by
          refine qq_iinc (v := i + 1) (loc' := [(0, .ref 80), (1, .int n9), (2, .int (i + 1))]) dX5_nearPairs_47 2 rfl rfl [1, 2, 0] (Nat.le_of_ble_eq_true rfl) rfl ?_
          refine qq_goto (tgt := 4) dX5_nearPairs_50 (by decide) ?_
          exact lq_X5_nearPairs_4  fu n9 (i + 1) hpk Sk hSk (qm_pos zp (by assumption)) (qm_up (by assumption) zh)) 9 n (i + 1) hp S hS (qm_pos (by assumption) (by assumption)) (by assumption) (by assumption) (qm_fu (qm_pos (by assumption) (by assumption)))
def r_X5_nearPairs  (S : sX) : Int32 := lr_X5_nearPairs_4 9 (0 : Int32) (0 : Int32) S
set_option maxRecDepth 4000 in
theorem mt_X5_nearPairs (hp : qq_H) (S : sX) (hS : cs_X S hp)   : qq_Mt mX5_nearPairs [.ref 80] hp 0 0 (fun v hp' => v = some (.int (r_X5_nearPairs S)) ∧ hp = hp') (fun _ _ => False) := by
  refine qq_met pn_X5 (Nat.le_of_ble_eq_true rfl) (Nat.le_of_ble_eq_true rfl) kc_X5_nearPairs ?_
  show qq_Go _ hp 0 0 0 [(0, .ref 80)] [] _ _
  refine qq_iconst (v := 0) dX5_nearPairs_0 (by decide) ?_
  refine qq_istore_n (loc' := [(0, .ref 80), (1, .int 0)]) dX5_nearPairs_1 rfl [1, 0] (Nat.le_of_ble_eq_true rfl) rfl ?_
  refine qq_iconst (v := 0) dX5_nearPairs_2 (by decide) ?_
  refine qq_istore_n (loc' := [(0, .ref 80), (1, .int 0), (2, .int 0)]) dX5_nearPairs_3 rfl [1, 2, 0] (Nat.le_of_ble_eq_true rfl) rfl ?_
  have ze : r_X5_nearPairs S = lr_X5_nearPairs_4 9 (0 : Int32) (0 : Int32) S := by
    rw [r_X5_nearPairs]
  rw [ze]
  exact lq_X5_nearPairs_4  9 (0 : Int32) (0 : Int32) hp S hS (by decide) (by decide)
def lr_X5_areTriplesSound_34 (a : Int32) (b : Int32) (kx : sX → Int32) : Nat → Int32 → Int32 → sX → Int32
  | 0, _, _, _ => 0
  | fu + 1, o9, c, S => if 8 ≤ c then kx  S else if o9 = 0 then kx  S else if 0 < (r_X5_compareCells b c S) then lr_X5_areTriplesSound_34 a b kx fu o9 (c + 1) S else if (r_X5_compareCells a c S) ≤ 0 then lr_X5_areTriplesSound_34 a b kx fu o9 (c + 1) S else 0
theorem bzl_X5_areTriplesSound_34 (a : Int32) (b : Int32) (kx : sX → Int32) (zkx : ∀  (S : sX), kx  S = 0 ∨ kx  S = 1) : ∀ (fu : Nat) (o9 : Int32) (c : Int32) (S : sX), lr_X5_areTriplesSound_34 a b kx fu o9 c S = 0 ∨ lr_X5_areTriplesSound_34 a b kx fu o9 c S = 1
  | 0, o9, c, S => Or.inl rfl
  | fu + 1, o9, c, S => by
    unfold lr_X5_areTriplesSound_34
    exact (qq_i01 (zkx  S) (qq_i01 (zkx  S) (qq_i01 (bzl_X5_areTriplesSound_34 a b kx zkx fu o9 (c + 1) S) (qq_i01 (bzl_X5_areTriplesSound_34 a b kx zkx fu o9 (c + 1) S) (Or.inl rfl)))))
set_option maxRecDepth 4000 in
theorem lq_X5_areTriplesSound_34 (a : Int32) (b : Int32) (kx : sX → Int32) (hkx : ∀  (hp : qq_H) (S : sX), cs_X S hp →  qq_Go mX5_areTriplesSound hp 0 0 73 [(0, .ref 80), (1, .int a), (2, .int b)] [] (fun v hp' => v = some (.int (kx  S)) ∧ hp = hp') (fun _ _ => False))   : ∀ (fu : Nat) (o9 : Int32) (c : Int32) (hp : qq_H) (S : sX), cs_X S hp → ¬ c < 0 → ¬ b < 0 → ¬ 8 ≤ b → ¬ a < 0 → ¬ 8 ≤ a → ((8 : Int32).toInt - c.toInt).toNat < fu → qq_Go mX5_areTriplesSound hp 0 0 34 [(0, .ref 80), (1, .int a), (2, .int b), (3, .int o9), (4, .int c)] [] (fun v hp' => v = some (.int (lr_X5_areTriplesSound_34 a b kx fu o9 c S)) ∧ hp = hp') (fun _ _ => False)
  | 0, _, _, hp, _, _, _, _, _, _, _, zz => absurd zz (Nat.not_lt_zero _)
  | fu + 1, o9, c, hp, S, hS, zc9, zb9, zb8, za9, za8, zh => by
    refine qq_iload dX5_areTriplesSound_34 4 rfl ?_
    refine qq_bipush (v := 8) dX5_areTriplesSound_36 (by decide) ?_
    refine qq_icmp_ge (tgt := 73) dX5_areTriplesSound_38 (by decide) (fun zc1 => ?_) (fun zc1 => ?_)
    · have ze : lr_X5_areTriplesSound_34 a b kx (fu + 1) o9 c S = kx  S := by
        rw [lr_X5_areTriplesSound_34, if_pos zc1]
      rw [ze]
      refine qq_loc [0, 1, 2] rfl ?_
      exact hkx  hp S hS 
    · refine qq_iload_n dX5_areTriplesSound_41 rfl 3 rfl ?_
      refine qq_if_eq (tgt := 73) dX5_areTriplesSound_42 (by decide) (fun zc2 => ?_) (fun zc2 => ?_)
      · have ze : lr_X5_areTriplesSound_34 a b kx (fu + 1) o9 c S = kx  S := by
          rw [lr_X5_areTriplesSound_34, if_neg zc1, if_pos zc2]
        rw [ze]
        refine qq_loc [0, 1, 2] rfl ?_
        exact hkx  hp S hS 
      · refine qq_aload_n dX5_areTriplesSound_45 rfl 0 rfl ?_
        refine qq_iload_n dX5_areTriplesSound_46 rfl 2 rfl ?_
        refine qq_iload dX5_areTriplesSound_47 4 rfl ?_
        refine qq_callV (bc := 0) (bs := 0) (mc := 0) (ms := 0) (o := 80) (ci := 2) (N := 6) (T := TX5) (as := [.int b, .int c]) (rest := []) dX5_areTriplesSound_49 hS.2.2.1 (by decide) rfl (mt_X5_compareCells hp S hS b c (by first | assumption | exact ⟨by assumption, by assumption⟩ | exact qm_in8 (by assumption) (by assumption) | exact ⟨by assumption, qm_len (by assumption)⟩ | exact qm_in8d (by assumption) (by assumption) | decide) (by first | assumption | exact ⟨by assumption, by assumption⟩ | exact qm_in8 (by assumption) (by assumption) | exact ⟨by assumption, qm_len (by assumption)⟩ | exact qm_in8d (by assumption) (by assumption) | decide)) rfl kl_X5_90 kn_X5_compareCells ke_X5_compareCells ki_X5 kc_X5_compareCells kd_X5_compareCells rfl (by decide) (by decide) (Nat.le_of_ble_eq_true rfl) (fun v hp' hv _ _ => ?_) (fun E hp' zx _ _ => zx.elim)
        obtain ⟨rfl, rfl⟩ := hv
        show qq_Go _ hp 0 0 52 [(0, .ref 80), (1, .int a), (2, .int b), (3, .int o9), (4, .int c)] [.int (r_X5_compareCells b c S)] _ _
        refine qq_if_gt (tgt := 67) dX5_areTriplesSound_52 (by decide) (fun zc3 => ?_) (fun zc3 => ?_)
        · refine qq_iinc (v := c + 1) (loc' := [(0, .ref 80), (1, .int a), (2, .int b), (3, .int o9), (4, .int (c + 1))]) dX5_areTriplesSound_67 4 rfl rfl [1, 2, 3, 4, 0] (Nat.le_of_ble_eq_true rfl) rfl ?_
          refine qq_goto (tgt := 34) dX5_areTriplesSound_70 (by decide) ?_
          have ze : lr_X5_areTriplesSound_34 a b kx (fu + 1) o9 c S = lr_X5_areTriplesSound_34 a b kx fu o9 (c + 1) S := by
            rw [lr_X5_areTriplesSound_34, if_neg zc1, if_neg zc2, if_pos zc3]
          rw [ze]
          exact lq_X5_areTriplesSound_34 a b kx hkx fu o9 (c + 1) hp S hS (qm_pos zc9 (by assumption)) zb9 zb8 za9 za8 (qm_up (by assumption) zh)
        · refine qq_aload_n dX5_areTriplesSound_55 rfl 0 rfl ?_
          refine qq_iload_n dX5_areTriplesSound_56 rfl 1 rfl ?_
          refine qq_iload dX5_areTriplesSound_57 4 rfl ?_
          refine qq_callV (bc := 0) (bs := 0) (mc := 0) (ms := 0) (o := 80) (ci := 2) (N := 6) (T := TX5) (as := [.int a, .int c]) (rest := []) dX5_areTriplesSound_59 hS.2.2.1 (by decide) rfl (mt_X5_compareCells hp S hS a c (by first | assumption | exact ⟨by assumption, by assumption⟩ | exact qm_in8 (by assumption) (by assumption) | exact ⟨by assumption, qm_len (by assumption)⟩ | exact qm_in8d (by assumption) (by assumption) | decide) (by first | assumption | exact ⟨by assumption, by assumption⟩ | exact qm_in8 (by assumption) (by assumption) | exact ⟨by assumption, qm_len (by assumption)⟩ | exact qm_in8d (by assumption) (by assumption) | decide)) rfl kl_X5_90 kn_X5_compareCells ke_X5_compareCells ki_X5 kc_X5_compareCells kd_X5_compareCells rfl (by decide) (by decide) (Nat.le_of_ble_eq_true rfl) (fun v hp' hv _ _ => ?_) (fun E hp' zx _ _ => zx.elim)
          obtain ⟨rfl, rfl⟩ := hv
          show qq_Go _ hp 0 0 62 [(0, .ref 80), (1, .int a), (2, .int b), (3, .int o9), (4, .int c)] [.int (r_X5_compareCells a c S)] _ _
          refine qq_if_le (tgt := 67) dX5_areTriplesSound_62 (by decide) (fun zc4 => ?_) (fun zc4 => ?_)
          · refine qq_iinc (v := c + 1) (loc' := [(0, .ref 80), (1, .int a), (2, .int b), (3, .int o9), (4, .int (c + 1))]) dX5_areTriplesSound_67 4 rfl rfl [1, 2, 3, 4, 0] (Nat.le_of_ble_eq_true rfl) rfl ?_
            refine qq_goto (tgt := 34) dX5_areTriplesSound_70 (by decide) ?_
            have ze : lr_X5_areTriplesSound_34 a b kx (fu + 1) o9 c S = lr_X5_areTriplesSound_34 a b kx fu o9 (c + 1) S := by
              rw [lr_X5_areTriplesSound_34, if_neg zc1, if_neg zc2, if_neg zc3, if_pos zc4]
            rw [ze]
            exact lq_X5_areTriplesSound_34 a b kx hkx fu o9 (c + 1) hp S hS (qm_pos zc9 (by assumption)) zb9 zb8 za9 za8 (qm_up (by assumption) zh)
          · refine qq_iconst (v := 0) dX5_areTriplesSound_65 (by decide) ?_
            have ze : lr_X5_areTriplesSound_34 a b kx (fu + 1) o9 c S = 0 := by
              rw [lr_X5_areTriplesSound_34, if_neg zc1, if_neg zc2, if_neg zc3, if_neg zc4]
            exact qq_iret dX5_areTriplesSound_66 rfl rfl ⟨by rw [ze], rfl⟩
def lr_X5_areTriplesSound_10 (a : Int32) (kx : sX → Int32) : Nat → Int32 → sX → Int32
  | 0, _, _ => 0
  | fu + 1, b, S => if 8 ≤ b then kx  S else if 0 < (r_X5_compareCells a b S) then lr_X5_areTriplesSound_34 a b (fun Sk => lr_X5_areTriplesSound_10 a kx fu (b + 1) Sk) 9 (0 : Int32) (0 : Int32) S else lr_X5_areTriplesSound_34 a b (fun Sk => lr_X5_areTriplesSound_10 a kx fu (b + 1) Sk) 9 (1 : Int32) (0 : Int32) S
theorem bzl_X5_areTriplesSound_10 (a : Int32) (kx : sX → Int32) (zkx : ∀  (S : sX), kx  S = 0 ∨ kx  S = 1) : ∀ (fu : Nat) (b : Int32) (S : sX), lr_X5_areTriplesSound_10 a kx fu b S = 0 ∨ lr_X5_areTriplesSound_10 a kx fu b S = 1
  | 0, b, S => Or.inl rfl
  | fu + 1, b, S => by
    unfold lr_X5_areTriplesSound_10
    exact (qq_i01 (zkx  S) (qq_i01 (bzl_X5_areTriplesSound_34 a b (fun  Sk => lr_X5_areTriplesSound_10 a kx fu (b + 1) Sk) (fun  Sk => (bzl_X5_areTriplesSound_10 a kx zkx fu (b + 1) Sk)) 9 (0 : Int32) (0 : Int32) S) (bzl_X5_areTriplesSound_34 a b (fun  Sk => lr_X5_areTriplesSound_10 a kx fu (b + 1) Sk) (fun  Sk => (bzl_X5_areTriplesSound_10 a kx zkx fu (b + 1) Sk)) 9 (1 : Int32) (0 : Int32) S)))
set_option maxRecDepth 4000 in
theorem lq_X5_areTriplesSound_10 (a : Int32) (kx : sX → Int32) (hkx : ∀  (hp : qq_H) (S : sX), cs_X S hp →  qq_Go mX5_areTriplesSound hp 0 0 79 [(0, .ref 80), (1, .int a)] [] (fun v hp' => v = some (.int (kx  S)) ∧ hp = hp') (fun _ _ => False))   : ∀ (fu : Nat) (b : Int32) (hp : qq_H) (S : sX), cs_X S hp → ¬ b < 0 → ¬ a < 0 → ¬ 8 ≤ a → ((8 : Int32).toInt - b.toInt).toNat < fu → qq_Go mX5_areTriplesSound hp 0 0 10 [(0, .ref 80), (1, .int a), (2, .int b)] [] (fun v hp' => v = some (.int (lr_X5_areTriplesSound_10 a kx fu b S)) ∧ hp = hp') (fun _ _ => False)
  | 0, _, hp, _, _, _, _, _, zz => absurd zz (Nat.not_lt_zero _)
  | fu + 1, b, hp, S, hS, zb9, za9, za8, zh => by
    refine qq_iload_n dX5_areTriplesSound_10 rfl 2 rfl ?_
    refine qq_bipush (v := 8) dX5_areTriplesSound_11 (by decide) ?_
    refine qq_icmp_ge (tgt := 79) dX5_areTriplesSound_13 (by decide) (fun zc1 => ?_) (fun zc1 => ?_)
    · have ze : lr_X5_areTriplesSound_10 a kx (fu + 1) b S = kx  S := by
        rw [lr_X5_areTriplesSound_10, if_pos zc1]
      rw [ze]
      refine qq_loc [0, 1] rfl ?_
      exact hkx  hp S hS 
    · refine qq_aload_n dX5_areTriplesSound_16 rfl 0 rfl ?_
      refine qq_iload_n dX5_areTriplesSound_17 rfl 1 rfl ?_
      refine qq_iload_n dX5_areTriplesSound_18 rfl 2 rfl ?_
      refine qq_callV (bc := 0) (bs := 0) (mc := 0) (ms := 0) (o := 80) (ci := 2) (N := 6) (T := TX5) (as := [.int a, .int b]) (rest := []) dX5_areTriplesSound_19 hS.2.2.1 (by decide) rfl (mt_X5_compareCells hp S hS a b (by first | assumption | exact ⟨by assumption, by assumption⟩ | exact qm_in8 (by assumption) (by assumption) | exact ⟨by assumption, qm_len (by assumption)⟩ | exact qm_in8d (by assumption) (by assumption) | decide) (by first | assumption | exact ⟨by assumption, by assumption⟩ | exact qm_in8 (by assumption) (by assumption) | exact ⟨by assumption, qm_len (by assumption)⟩ | exact qm_in8d (by assumption) (by assumption) | decide)) rfl kl_X5_90 kn_X5_compareCells ke_X5_compareCells ki_X5 kc_X5_compareCells kd_X5_compareCells rfl (by decide) (by decide) (Nat.le_of_ble_eq_true rfl) (fun v hp' hv _ _ => ?_) (fun E hp' zx _ _ => zx.elim)
      obtain ⟨rfl, rfl⟩ := hv
      show qq_Go _ hp 0 0 22 [(0, .ref 80), (1, .int a), (2, .int b)] [.int (r_X5_compareCells a b S)] _ _
      refine qq_if_gt (tgt := 29) dX5_areTriplesSound_22 (by decide) (fun zc2 => ?_) (fun zc2 => ?_)
      · refine qq_iconst (v := 0) dX5_areTriplesSound_29 (by decide) ?_
        refine qq_istore_n (loc' := [(0, .ref 80), (1, .int a), (2, .int b), (3, .int 0)]) dX5_areTriplesSound_30 rfl [1, 2, 3, 0] (Nat.le_of_ble_eq_true rfl) rfl ?_
        refine qq_iconst (v := 0) dX5_areTriplesSound_31 (by decide) ?_
        refine qq_istore (loc' := [(0, .ref 80), (1, .int a), (2, .int b), (3, .int 0), (4, .int 0)]) dX5_areTriplesSound_32 [1, 2, 3, 4, 0] (Nat.le_of_ble_eq_true rfl) rfl ?_
        have ze : lr_X5_areTriplesSound_10 a kx (fu + 1) b S = lr_X5_areTriplesSound_34 a b (fun Sk => lr_X5_areTriplesSound_10 a kx fu (b + 1) Sk) 9 (0 : Int32) (0 : Int32) S := by
          rw [lr_X5_areTriplesSound_10, if_neg zc1, if_pos zc2]
        rw [ze]
        exact lq_X5_areTriplesSound_34 a b (fun  Sk => lr_X5_areTriplesSound_10 a kx fu (b + 1) Sk) (fun  hpk Sk hSk => by
            refine qq_iinc (v := b + 1) (loc' := [(0, .ref 80), (1, .int a), (2, .int (b + 1))]) dX5_areTriplesSound_73 2 rfl rfl [1, 2, 0] (Nat.le_of_ble_eq_true rfl) rfl ?_
            refine qq_goto (tgt := 10) dX5_areTriplesSound_76 (by decide) ?_
            exact lq_X5_areTriplesSound_10 a kx hkx fu (b + 1) hpk Sk hSk (qm_pos zb9 (by assumption)) za9 za8 (qm_up (by assumption) zh)) 9 (0 : Int32) (0 : Int32) hp S hS (by decide) (by assumption) (by assumption) (by assumption) (by assumption) (by decide)
      · refine qq_iconst (v := 1) dX5_areTriplesSound_25 (by decide) ?_
        refine qq_goto (tgt := 30) dX5_areTriplesSound_26 (by decide) ?_
        refine qq_istore_n (loc' := [(0, .ref 80), (1, .int a), (2, .int b), (3, .int 1)]) dX5_areTriplesSound_30 rfl [1, 2, 3, 0] (Nat.le_of_ble_eq_true rfl) rfl ?_
        refine qq_iconst (v := 0) dX5_areTriplesSound_31 (by decide) ?_
        refine qq_istore (loc' := [(0, .ref 80), (1, .int a), (2, .int b), (3, .int 1), (4, .int 0)]) dX5_areTriplesSound_32 [1, 2, 3, 4, 0] (Nat.le_of_ble_eq_true rfl) rfl ?_
        have ze : lr_X5_areTriplesSound_10 a kx (fu + 1) b S = lr_X5_areTriplesSound_34 a b (fun Sk => lr_X5_areTriplesSound_10 a kx fu (b + 1) Sk) 9 (1 : Int32) (0 : Int32) S := by
          rw [lr_X5_areTriplesSound_10, if_neg zc1, if_neg zc2]
        rw [ze]
        exact lq_X5_areTriplesSound_34 a b (fun  Sk => lr_X5_areTriplesSound_10 a kx fu (b + 1) Sk) (fun  hpk Sk hSk => by
            refine qq_iinc (v := b + 1) (loc' := [(0, .ref 80), (1, .int a), (2, .int (b + 1))]) dX5_areTriplesSound_73 2 rfl rfl [1, 2, 0] (Nat.le_of_ble_eq_true rfl) rfl ?_
            refine qq_goto (tgt := 10) dX5_areTriplesSound_76 (by decide) ?_
            exact lq_X5_areTriplesSound_10 a kx hkx fu (b + 1) hpk Sk hSk (qm_pos zb9 (by assumption)) za9 za8 (qm_up (by assumption) zh)) 9 (1 : Int32) (0 : Int32) hp S hS (by decide) (by assumption) (by assumption) (by assumption) (by assumption) (by decide)
def lr_X5_areTriplesSound_2  : Nat → Int32 → sX → Int32
  | 0, _, _ => 0
  | fu + 1, a, S => if 8 ≤ a then 1 else lr_X5_areTriplesSound_10 a (fun Sk => lr_X5_areTriplesSound_2 fu (a + 1) Sk) 9 (0 : Int32) S
theorem bzl_X5_areTriplesSound_2  : ∀ (fu : Nat) (a : Int32) (S : sX), lr_X5_areTriplesSound_2 fu a S = 0 ∨ lr_X5_areTriplesSound_2 fu a S = 1
  | 0, a, S => Or.inl rfl
  | fu + 1, a, S => by
    unfold lr_X5_areTriplesSound_2
    exact (qq_i01 (Or.inr rfl) (bzl_X5_areTriplesSound_10 a (fun  Sk => lr_X5_areTriplesSound_2 fu (a + 1) Sk) (fun  Sk => (bzl_X5_areTriplesSound_2  fu (a + 1) Sk)) 9 (0 : Int32) S))
set_option maxRecDepth 4000 in
theorem lq_X5_areTriplesSound_2    : ∀ (fu : Nat) (a : Int32) (hp : qq_H) (S : sX), cs_X S hp → ¬ a < 0 → ((8 : Int32).toInt - a.toInt).toNat < fu → qq_Go mX5_areTriplesSound hp 0 0 2 [(0, .ref 80), (1, .int a)] [] (fun v hp' => v = some (.int (lr_X5_areTriplesSound_2 fu a S)) ∧ hp = hp') (fun _ _ => False)
  | 0, _, hp, _, _, _, zz => absurd zz (Nat.not_lt_zero _)
  | fu + 1, a, hp, S, hS, za9, zh => by
    refine qq_iload_n dX5_areTriplesSound_2 rfl 1 rfl ?_
    refine qq_bipush (v := 8) dX5_areTriplesSound_3 (by decide) ?_
    refine qq_icmp_ge (tgt := 85) dX5_areTriplesSound_5 (by decide) (fun zc1 => ?_) (fun zc1 => ?_)
    · refine qq_iconst (v := 1) dX5_areTriplesSound_85 (by decide) ?_
      have ze : lr_X5_areTriplesSound_2 (fu + 1) a S = 1 := by
        rw [lr_X5_areTriplesSound_2, if_pos zc1]
      exact qq_iret dX5_areTriplesSound_86 rfl rfl ⟨by rw [ze], rfl⟩
    · refine qq_iconst (v := 0) dX5_areTriplesSound_8 (by decide) ?_
      refine qq_istore_n (loc' := [(0, .ref 80), (1, .int a), (2, .int 0)]) dX5_areTriplesSound_9 rfl [1, 2, 0] (Nat.le_of_ble_eq_true rfl) rfl ?_
      have ze : lr_X5_areTriplesSound_2 (fu + 1) a S = lr_X5_areTriplesSound_10 a (fun Sk => lr_X5_areTriplesSound_2 fu (a + 1) Sk) 9 (0 : Int32) S := by
        rw [lr_X5_areTriplesSound_2, if_neg zc1]
      rw [ze]
      exact lq_X5_areTriplesSound_10 a (fun  Sk => lr_X5_areTriplesSound_2 fu (a + 1) Sk) (fun  hpk Sk hSk => by
          refine qq_iinc (v := a + 1) (loc' := [(0, .ref 80), (1, .int (a + 1))]) dX5_areTriplesSound_79 1 rfl rfl [1, 0] (Nat.le_of_ble_eq_true rfl) rfl ?_
          refine qq_goto (tgt := 2) dX5_areTriplesSound_82 (by decide) ?_
          exact lq_X5_areTriplesSound_2  fu (a + 1) hpk Sk hSk (qm_pos za9 (by assumption)) (qm_up (by assumption) zh)) 9 (0 : Int32) hp S hS (by decide) (by assumption) (by assumption) (by decide)
def r_X5_areTriplesSound  (S : sX) : Int32 := lr_X5_areTriplesSound_2 9 (0 : Int32) S
theorem bz_X5_areTriplesSound  (S : sX) : r_X5_areTriplesSound S = 0 ∨ r_X5_areTriplesSound S = 1 := by
  unfold r_X5_areTriplesSound
  exact (bzl_X5_areTriplesSound_2  9 (0 : Int32) S)
set_option maxRecDepth 4000 in
theorem mt_X5_areTriplesSound (hp : qq_H) (S : sX) (hS : cs_X S hp)   : qq_Mt mX5_areTriplesSound [.ref 80] hp 0 0 (fun v hp' => v = some (.int (r_X5_areTriplesSound S)) ∧ hp = hp') (fun _ _ => False) := by
  refine qq_met pn_X5 (Nat.le_of_ble_eq_true rfl) (Nat.le_of_ble_eq_true rfl) kc_X5_areTriplesSound ?_
  show qq_Go _ hp 0 0 0 [(0, .ref 80)] [] _ _
  refine qq_iconst (v := 0) dX5_areTriplesSound_0 (by decide) ?_
  refine qq_istore_n (loc' := [(0, .ref 80), (1, .int 0)]) dX5_areTriplesSound_1 rfl [1, 0] (Nat.le_of_ble_eq_true rfl) rfl ?_
  have ze : r_X5_areTriplesSound S = lr_X5_areTriplesSound_2 9 (0 : Int32) S := by
    rw [r_X5_areTriplesSound]
  rw [ze]
  exact lq_X5_areTriplesSound_2  9 (0 : Int32) hp S hS (by decide) (by decide)