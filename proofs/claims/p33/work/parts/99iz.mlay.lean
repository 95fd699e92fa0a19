def lf_X7_lay_44 (from9 : Int32) (by9 : Int32) (g39 : (Nat → Int32)) (g49 : (Nat → Int32)) (g59 : (Nat → Int32)) : Nat → Int32 → sM → Int32 × sM
  | 0, k9, S => (k9, S)
  | fu + 1, k9, S => if 8 ≤ k9 then (k9, S) else lf_X7_lay_44 from9 by9 g39 g49 g59 fu (k9 + 1) (S.1, upd S.2.1 k9.toNatClampNeg (from9 + (k9 * by9)), S.2.2.1, S.2.2.2.1, S.2.2.2.2.1, S.2.2.2.2.2.1, S.2.2.2.2.2.2)
set_option maxRecDepth 4000 in
theorem lq_X7_lay_44 (from9 : Int32) (by9 : Int32) (A : qA) (r39 : Nat) (g39 : (Nat → Int32)) (r49 : Nat) (g49 : (Nat → Int32)) (r59 : Nat) (g59 : (Nat → Int32)) (zl3 : lo3 A r39) (zl4 : lo3 A r49) (zl5 : lo3 A r59) {P : Option Value → qq_H → Prop} {PX : String → qq_H → Prop} : ∀ (fu : Nat) (k9 : Int32) (hp : qq_H) (S : sM), ms_M A S hp → hp.2 r39 = .inl (0, 8, .inl g39) → r39 < hp.1 → hp.2 r49 = .inl (0, 8, .inl g49) → r49 < hp.1 → hp.2 r59 = .inl (2, 8, .inl g59) → r59 < hp.1 → ¬ k9 < 0 → ((8 : Int32).toInt - k9.toInt).toNat < fu → ∀ (bc bs : Nat), (∀ hp' : qq_H, ms_M A ((lf_X7_lay_44 from9 by9 g39 g49 g59 fu k9 S).2) hp' → fr A hp hp' → qq_Go mX7_lay hp' bc bs 70 [(0, .ref 84), (1, .int from9), (2, .int by9), (3, .ref r39), (4, .ref r49), (5, .ref r59)] [] P PX) → qq_Go mX7_lay hp (0 * fu + bc) (0 * fu + bs) 44 [(0, .ref 84), (1, .int from9), (2, .int by9), (3, .ref r39), (4, .ref r49), (5, .ref r59), (6, .int k9)] [] P PX := by
  intro fu
  induction fu with
  | zero => intro k9 hp S hS hr3 hl3 hr4 hl4 hr5 hl5 zp zz; exact absurd zz (Nat.not_lt_zero _)
  | succ fu lqih =>
    intro k9 hp S hS hr3 hl3 hr4 hl4 hr5 hl5 zp zh bc bs hk
    refine qq_iload dX7_lay_44 6 rfl ?_
    refine qq_bipush (v := 8) dX7_lay_46 (by decide) ?_
    refine qq_icmp_ge (tgt := 70) dX7_lay_48 (by decide) (fun zc1 => ?_) (fun zc1 => ?_)
    · have ze : lf_X7_lay_44 from9 by9 g39 g49 g59 (fu + 1) k9 S = (k9, S) := by
        rw [lf_X7_lay_44, if_pos zc1]
      rw [ze] at hk
      refine qq_loc [0, 1, 2, 3, 4, 5] rfl ?_
      refine qq_less (bc' := bc) (bs' := bs) (by omega) (by omega) ?_
      exact hk hp hS (fr_r _ _)
    · refine qq_aload_n dX7_lay_51 rfl 0 rfl ?_
      refine mx_get hS dX7_lay_52 5 (by decide) rfl kl_X7_31 ?_
      refine qq_iload dX7_lay_55 6 rfl ?_
      refine qq_iload_n dX7_lay_57 rfl 1 rfl ?_
      refine qq_iload dX7_lay_58 6 rfl ?_
      refine qq_iload_n dX7_lay_60 rfl 2 rfl ?_
      refine qq_imul dX7_lay_61 ?_
      refine qq_iadd dX7_lay_62 ?_
      refine mx_st2 hS dX7_lay_63 (qm_in8 zp zc1) (fun hp1 hS1 fr1 _ _ => ?_)
      replace hS1 : ms_M A (S.1, upd S.2.1 k9.toNatClampNeg (from9 + (k9 * by9)), S.2.2.1, S.2.2.2.1, S.2.2.2.2.1, S.2.2.2.2.2.1, S.2.2.2.2.2.2) hp1 := hS1
      have hr_1 := (fr_lo fr1 hl3 zl3 hr3)
      have hl_1 := fr_l fr1 hl3
      have hr_2 := (fr_lo fr1 hl4 zl4 hr4)
      have hl_2 := fr_l fr1 hl4
      have hr_3 := (fr_lo fr1 hl5 zl5 hr5)
      have hl_3 := fr_l fr1 hl5
      refine qq_iinc (v := k9 + 1) (loc' := [(0, .ref 84), (1, .int from9), (2, .int by9), (3, .ref r39), (4, .ref r49), (5, .ref r59), (6, .int (k9 + 1))]) dX7_lay_64 6 rfl rfl [1, 2, 3, 4, 5, 6, 0] (Nat.le_of_ble_eq_true rfl) rfl ?_
      refine qq_goto (tgt := 44) dX7_lay_67 (by decide) ?_
      have ze : lf_X7_lay_44 from9 by9 g39 g49 g59 (fu + 1) k9 S = lf_X7_lay_44 from9 by9 g39 g49 g59 fu (k9 + 1) (S.1, upd S.2.1 k9.toNatClampNeg (from9 + (k9 * by9)), S.2.2.1, S.2.2.2.1, S.2.2.2.2.1, S.2.2.2.2.2.1, S.2.2.2.2.2.2) := by
        rw [lf_X7_lay_44, if_neg zc1]
      rw [ze] at hk
      refine qq_less (bc' := 0 * fu + bc) (bs' := 0 * fu + bs) (by omega) (by omega) ?_
      exact lqih (k9 + 1) hp1 (S.1, upd S.2.1 k9.toNatClampNeg (from9 + (k9 * by9)), S.2.2.1, S.2.2.2.1, S.2.2.2.2.1, S.2.2.2.2.2.1, S.2.2.2.2.2.2) hS1 hr_1 hl_1 hr_2 hl_2 hr_3 hl_3 (qm_pos zp (by assumption)) (qm_up (by assumption) zh) bc bs (fun hq h1 h2 => hk hq h1 (fr_t fr1 h2))
def r_X7_lay (from9 : Int32) (by9 : Int32)  (S : sM) : Int32 × sM := (r_X7_others S.1 S.2.1 S.2.2.1 (((lf_X7_lay_44 from9 by9 S.1 S.2.1 S.2.2.1 9 (0 : Int32) ((fun _ => 0), (fun _ => 0), (fun _ => 0), S.2.2.2.1, S.2.2.2.2.1, S.2.2.2.2.2.1, S.2.2.2.2.2.2)).2).1, ((lf_X7_lay_44 from9 by9 S.1 S.2.1 S.2.2.1 9 (0 : Int32) ((fun _ => 0), (fun _ => 0), (fun _ => 0), S.2.2.2.1, S.2.2.2.2.1, S.2.2.2.2.2.1, S.2.2.2.2.2.2)).2).2.1, ((lf_X7_lay_44 from9 by9 S.1 S.2.1 S.2.2.1 9 (0 : Int32) ((fun _ => 0), (fun _ => 0), (fun _ => 0), S.2.2.2.1, S.2.2.2.2.1, S.2.2.2.2.2.1, S.2.2.2.2.2.2)).2).2.2.1, (((lf_X7_lay_44 from9 by9 S.1 S.2.1 S.2.2.1 9 (0 : Int32) ((fun _ => 0), (fun _ => 0), (fun _ => 0), S.2.2.2.1, S.2.2.2.2.1, S.2.2.2.2.2.1, S.2.2.2.2.2.2)).2).2.2.2.1) + 1, ((lf_X7_lay_44 from9 by9 S.1 S.2.1 S.2.2.1 9 (0 : Int32) ((fun _ => 0), (fun _ => 0), (fun _ => 0), S.2.2.2.1, S.2.2.2.2.1, S.2.2.2.2.2.1, S.2.2.2.2.2.2)).2).2.2.2.2.1, ((lf_X7_lay_44 from9 by9 S.1 S.2.1 S.2.2.1 9 (0 : Int32) ((fun _ => 0), (fun _ => 0), (fun _ => 0), S.2.2.2.1, S.2.2.2.2.1, S.2.2.2.2.2.1, S.2.2.2.2.2.2)).2).2.2.2.2.2.1, ((lf_X7_lay_44 from9 by9 S.1 S.2.1 S.2.2.1 9 (0 : Int32) ((fun _ => 0), (fun _ => 0), (fun _ => 0), S.2.2.2.1, S.2.2.2.2.1, S.2.2.2.2.2.1, S.2.2.2.2.2.2)).2).2.2.2.2.2.2), (((lf_X7_lay_44 from9 by9 S.1 S.2.1 S.2.2.1 9 (0 : Int32) ((fun _ => 0), (fun _ => 0), (fun _ => 0), S.2.2.2.1, S.2.2.2.2.1, S.2.2.2.2.2.1, S.2.2.2.2.2.2)).2).1, ((lf_X7_lay_44 from9 by9 S.1 S.2.1 S.2.2.1 9 (0 : Int32) ((fun _ => 0), (fun _ => 0), (fun _ => 0), S.2.2.2.1, S.2.2.2.2.1, S.2.2.2.2.2.1, S.2.2.2.2.2.2)).2).2.1, ((lf_X7_lay_44 from9 by9 S.1 S.2.1 S.2.2.1 9 (0 : Int32) ((fun _ => 0), (fun _ => 0), (fun _ => 0), S.2.2.2.1, S.2.2.2.2.1, S.2.2.2.2.2.1, S.2.2.2.2.2.2)).2).2.2.1, (((lf_X7_lay_44 from9 by9 S.1 S.2.1 S.2.2.1 9 (0 : Int32) ((fun _ => 0), (fun _ => 0), (fun _ => 0), S.2.2.2.1, S.2.2.2.2.1, S.2.2.2.2.2.1, S.2.2.2.2.2.2)).2).2.2.2.1) + 1, ((lf_X7_lay_44 from9 by9 S.1 S.2.1 S.2.2.1 9 (0 : Int32) ((fun _ => 0), (fun _ => 0), (fun _ => 0), S.2.2.2.1, S.2.2.2.2.1, S.2.2.2.2.2.1, S.2.2.2.2.2.2)).2).2.2.2.2.1, ((lf_X7_lay_44 from9 by9 S.1 S.2.1 S.2.2.1 9 (0 : Int32) ((fun _ => 0), (fun _ => 0), (fun _ => 0), S.2.2.2.1, S.2.2.2.2.1, S.2.2.2.2.2.1, S.2.2.2.2.2.2)).2).2.2.2.2.2.1, ((lf_X7_lay_44 from9 by9 S.1 S.2.1 S.2.2.1 9 (0 : Int32) ((fun _ => 0), (fun _ => 0), (fun _ => 0), S.2.2.2.1, S.2.2.2.2.1, S.2.2.2.2.2.1, S.2.2.2.2.2.2)).2).2.2.2.2.2.2))
set_option maxRecDepth 4000 in
theorem mt_X7_lay (hp : qq_H) (A : qA) (S : sM) (hS : ms_M A S hp) (from9 : Int32) (by9 : Int32)      : qq_Mt mX7_lay [.ref 84, .int from9, .int by9] hp 3 24 (fun v hp' => v = some (.int ((r_X7_lay from9 by9 S).1)) ∧ ∃ A9 : qA, ms_M A9 ((r_X7_lay from9 by9 S).2) hp' ∧ fr A hp hp') (fun _ _ => False) := by
  refine qq_met pn_X7 (Nat.le_of_ble_eq_true rfl) (Nat.le_of_ble_eq_true rfl) kc_X7_lay ?_
  show qq_Go _ hp 3 24 0 [(0, .ref 84), (1, .int from9), (2, .int by9)] [] _ _
  refine qq_aload_n dX7_lay_0 rfl 0 rfl ?_
  refine mx_get hS dX7_lay_1 4 (by decide) rfl kl_X7_28 ?_
  refine qq_astore_n (loc' := [(0, .ref 84), (1, .int from9), (2, .int by9), (3, .ref A.1)]) dX7_lay_4 rfl [1, 2, 3, 0] (Nat.le_of_ble_eq_true rfl) rfl ?_
  refine qq_aload_n dX7_lay_5 rfl 0 rfl ?_
  refine mx_get hS dX7_lay_6 5 (by decide) rfl kl_X7_31 ?_
  refine qq_astore (loc' := [(0, .ref 84), (1, .int from9), (2, .int by9), (3, .ref A.1), (4, .ref A.2.1)]) dX7_lay_9 [1, 2, 3, 4, 0] (Nat.le_of_ble_eq_true rfl) rfl ?_
  refine qq_aload_n dX7_lay_11 rfl 0 rfl ?_
  refine mx_get hS dX7_lay_12 6 (by decide) rfl kl_X7_34 ?_
  refine qq_astore (loc' := [(0, .ref 84), (1, .int from9), (2, .int by9), (3, .ref A.1), (4, .ref A.2.1), (5, .ref A.2.2)]) dX7_lay_15 [1, 2, 3, 4, 5, 0] (Nat.le_of_ble_eq_true rfl) rfl ?_
  refine qq_less (bc' := 0 + 3) (bs' := 0 + 24) (by omega) (by omega) ?_
  refine mx_new3 (bc := 0) (bs := 0) hS 0 rfl dX7_lay_17 dX7_lay_18 dX7_lay_20 28 dX7_lay_22 dX7_lay_25 dX7_lay_26 dX7_lay_28 31 dX7_lay_30 dX7_lay_33 dX7_lay_34 dX7_lay_36 34 dX7_lay_38 kl_X7_28 kl_X7_31 kl_X7_34 ka_int ka_boolean (fun hp1 hS1 hz1 hk1 => ?_)
  obtain ⟨ba1, ba2, ba3, ba4⟩ := hS.2.2.2.2.2.2.1
  have hn1 : hp.1 ≤ hp.1 := (fr_r A hp).1
  have frB : fr A hp hp1 := ⟨by have := hn1; omega, fun k hk d1 d2 d3 d4 d5 => (hk1 k (by omega) d1).trans ((fr_r A hp).2 k hk d1 d2 d3 d4 d5)⟩
  have hn3 : hp.1 ≤ hp.1 ∧ hp.1 ≤ hp.1 + 1 ∧ hp.1 ≤ hp.1 + 2 := ⟨hn1, by omega, by omega⟩
  have lo0 : lo3 (hp.1, hp.1 + 1, hp.1 + 2) A.1 := ⟨by omega, ba1.2, by show _ < hp.1 + 1; omega, by show _ < hp.1 + 2; omega⟩
  have hr_o0 := (hk1 _ ba1.2 (by omega)).trans hS.2.2.2.1
  have hl_o0 : A.1 < hp1.1 := by omega
  have lo1 : lo3 (hp.1, hp.1 + 1, hp.1 + 2) A.2.1 := ⟨by omega, ba2.2, by show _ < hp.1 + 1; omega, by show _ < hp.1 + 2; omega⟩
  have hr_o1 := (hk1 _ ba2.2 (by omega)).trans hS.2.2.2.2.1
  have hl_o1 : A.2.1 < hp1.1 := by omega
  have lo2 : lo3 (hp.1, hp.1 + 1, hp.1 + 2) A.2.2 := ⟨by omega, ba3.2, by show _ < hp.1 + 1; omega, by show _ < hp.1 + 2; omega⟩
  have hr_o2 := (hk1 _ ba3.2 (by omega)).trans hS.2.2.2.2.2.1
  have hl_o2 : A.2.2 < hp1.1 := by omega
  show qq_Go _ hp1 (0) (0) 41 [(0, .ref 84), (1, .int from9), (2, .int by9), (3, .ref A.1), (4, .ref A.2.1), (5, .ref A.2.2)] [] _ _
  refine qq_iconst (v := 0) dX7_lay_41 (by decide) ?_
  refine qq_istore (loc' := [(0, .ref 84), (1, .int from9), (2, .int by9), (3, .ref A.1), (4, .ref A.2.1), (5, .ref A.2.2), (6, .int 0)]) dX7_lay_42 [1, 2, 3, 4, 5, 6, 0] (Nat.le_of_ble_eq_true rfl) rfl ?_
  refine qq_less (bc' := 0 + 0) (bs' := 0 + 0) (by omega) (by omega) ?_
  refine qq_less (bc' := 0 * 9 + (0)) (bs' := 0 * 9 + (0)) (by omega) (by omega) ?_
  refine lq_X7_lay_44 from9 by9 (hp.1, hp.1 + 1, hp.1 + 2) A.1 S.1 A.2.1 S.2.1 A.2.2 S.2.2.1 lo0 lo1 lo2 9 (0 : Int32) hp1 ((fun _ => 0), (fun _ => 0), (fun _ => 0), S.2.2.2.1, S.2.2.2.2.1, S.2.2.2.2.2.1, S.2.2.2.2.2.2) hS1 hr_o0 hl_o0 hr_o1 hl_o1 hr_o2 hl_o2 (by decide) (by decide) (0) (0) (fun hp2 hS2 fr2 => ?_)
  have hr_1 := (fr_lo fr2 hl_o0 lo0 hr_o0)
  have hl_1 := fr_l fr2 hl_o0
  have hr_2 := (fr_lo fr2 hl_o1 lo1 hr_o1)
  have hl_2 := fr_l fr2 hl_o1
  have hr_3 := (fr_lo fr2 hl_o2 lo2 hr_o2)
  have hl_3 := fr_l fr2 hl_o2
  show qq_Go _ hp2 (0) (0) 70 [(0, .ref 84), (1, .int from9), (2, .int by9), (3, .ref A.1), (4, .ref A.2.1), (5, .ref A.2.2)] [] _ _
  refine qq_aload_n dX7_lay_70 rfl 0 rfl ?_
  refine qq_dup dX7_lay_71 rfl ?_
  refine mx_get hS2 dX7_lay_72 7 (by decide) rfl kl_X7_117 ?_
  refine qq_iconst (v := 1) dX7_lay_75 (by decide) ?_
  refine qq_iadd dX7_lay_76 ?_
  refine mx_put7 hS2 dX7_lay_77 kl_X7_117 (fun hp3 hS3 fq3 => ?_)
  have fr3 := fq3 (hp.1, hp.1 + 1, hp.1 + 2)
  replace hS3 : ms_M (hp.1, hp.1 + 1, hp.1 + 2) (((lf_X7_lay_44 from9 by9 S.1 S.2.1 S.2.2.1 9 (0 : Int32) ((fun _ => 0), (fun _ => 0), (fun _ => 0), S.2.2.2.1, S.2.2.2.2.1, S.2.2.2.2.2.1, S.2.2.2.2.2.2)).2).1, ((lf_X7_lay_44 from9 by9 S.1 S.2.1 S.2.2.1 9 (0 : Int32) ((fun _ => 0), (fun _ => 0), (fun _ => 0), S.2.2.2.1, S.2.2.2.2.1, S.2.2.2.2.2.1, S.2.2.2.2.2.2)).2).2.1, ((lf_X7_lay_44 from9 by9 S.1 S.2.1 S.2.2.1 9 (0 : Int32) ((fun _ => 0), (fun _ => 0), (fun _ => 0), S.2.2.2.1, S.2.2.2.2.1, S.2.2.2.2.2.1, S.2.2.2.2.2.2)).2).2.2.1, (((lf_X7_lay_44 from9 by9 S.1 S.2.1 S.2.2.1 9 (0 : Int32) ((fun _ => 0), (fun _ => 0), (fun _ => 0), S.2.2.2.1, S.2.2.2.2.1, S.2.2.2.2.2.1, S.2.2.2.2.2.2)).2).2.2.2.1) + 1, ((lf_X7_lay_44 from9 by9 S.1 S.2.1 S.2.2.1 9 (0 : Int32) ((fun _ => 0), (fun _ => 0), (fun _ => 0), S.2.2.2.1, S.2.2.2.2.1, S.2.2.2.2.2.1, S.2.2.2.2.2.2)).2).2.2.2.2.1, ((lf_X7_lay_44 from9 by9 S.1 S.2.1 S.2.2.1 9 (0 : Int32) ((fun _ => 0), (fun _ => 0), (fun _ => 0), S.2.2.2.1, S.2.2.2.2.1, S.2.2.2.2.2.1, S.2.2.2.2.2.2)).2).2.2.2.2.2.1, ((lf_X7_lay_44 from9 by9 S.1 S.2.1 S.2.2.1 9 (0 : Int32) ((fun _ => 0), (fun _ => 0), (fun _ => 0), S.2.2.2.1, S.2.2.2.2.1, S.2.2.2.2.2.1, S.2.2.2.2.2.2)).2).2.2.2.2.2.2) hp3 := hS3
  have hr_4 := (fr_lo fr3 hl_1 lo0 hr_1)
  have hl_4 := fr_l fr3 hl_1
  have hr_5 := (fr_lo fr3 hl_2 lo1 hr_2)
  have hl_5 := fr_l fr3 hl_2
  have hr_6 := (fr_lo fr3 hl_3 lo2 hr_3)
  have hl_6 := fr_l fr3 hl_3
  refine qq_aload_n dX7_lay_80 rfl 0 rfl ?_
  refine qq_aload_n dX7_lay_81 rfl 3 rfl ?_
  refine qq_aload dX7_lay_82 4 rfl ?_
  refine qq_aload dX7_lay_84 5 rfl ?_
  refine qq_less (bc' := 0 + 0) (bs' := 0 + 0) (by omega) (by omega) ?_
  refine qq_callV (bc := 0) (bs := 0) (mc := 0) (ms := 0) (o := 84) (ci := 4) (N := 11) (T := TX7) (as := [.ref A.1, .ref A.2.1, .ref A.2.2]) (rest := []) dX7_lay_86 hS3.2.2.1 (by decide) rfl (mt_X7_others hp3 (hp.1, hp.1 + 1, hp.1 + 2) (((lf_X7_lay_44 from9 by9 S.1 S.2.1 S.2.2.1 9 (0 : Int32) ((fun _ => 0), (fun _ => 0), (fun _ => 0), S.2.2.2.1, S.2.2.2.2.1, S.2.2.2.2.2.1, S.2.2.2.2.2.2)).2).1, ((lf_X7_lay_44 from9 by9 S.1 S.2.1 S.2.2.1 9 (0 : Int32) ((fun _ => 0), (fun _ => 0), (fun _ => 0), S.2.2.2.1, S.2.2.2.2.1, S.2.2.2.2.2.1, S.2.2.2.2.2.2)).2).2.1, ((lf_X7_lay_44 from9 by9 S.1 S.2.1 S.2.2.1 9 (0 : Int32) ((fun _ => 0), (fun _ => 0), (fun _ => 0), S.2.2.2.1, S.2.2.2.2.1, S.2.2.2.2.2.1, S.2.2.2.2.2.2)).2).2.2.1, (((lf_X7_lay_44 from9 by9 S.1 S.2.1 S.2.2.1 9 (0 : Int32) ((fun _ => 0), (fun _ => 0), (fun _ => 0), S.2.2.2.1, S.2.2.2.2.1, S.2.2.2.2.2.1, S.2.2.2.2.2.2)).2).2.2.2.1) + 1, ((lf_X7_lay_44 from9 by9 S.1 S.2.1 S.2.2.1 9 (0 : Int32) ((fun _ => 0), (fun _ => 0), (fun _ => 0), S.2.2.2.1, S.2.2.2.2.1, S.2.2.2.2.2.1, S.2.2.2.2.2.2)).2).2.2.2.2.1, ((lf_X7_lay_44 from9 by9 S.1 S.2.1 S.2.2.1 9 (0 : Int32) ((fun _ => 0), (fun _ => 0), (fun _ => 0), S.2.2.2.1, S.2.2.2.2.1, S.2.2.2.2.2.1, S.2.2.2.2.2.2)).2).2.2.2.2.2.1, ((lf_X7_lay_44 from9 by9 S.1 S.2.1 S.2.2.1 9 (0 : Int32) ((fun _ => 0), (fun _ => 0), (fun _ => 0), S.2.2.2.1, S.2.2.2.2.1, S.2.2.2.2.2.1, S.2.2.2.2.2.2)).2).2.2.2.2.2.2) hS3 A.1 A.2.1 A.2.2 S.1 S.2.1 S.2.2.1 hr_4 hr_5 hr_6 hl_4 hl_5 hl_6 ) rfl kl_X7_140 kn_X7_others ke_X7_others ki_X7 kc_X7_others kd_X7_others rfl (by decide) (by decide) (Nat.le_of_ble_eq_true rfl) (fun v hp' hv _ _ => ?_) (fun E hp' zx _ _ => zx.elim)
  obtain ⟨rfl, rfl⟩ := hv
  show qq_Go _ hp3 (0) (0) 89 [(0, .ref 84), (1, .int from9), (2, .int by9), (3, .ref A.1), (4, .ref A.2.1), (5, .ref A.2.2)] [.int (r_X7_others S.1 S.2.1 S.2.2.1 (((lf_X7_lay_44 from9 by9 S.1 S.2.1 S.2.2.1 9 (0 : Int32) ((fun _ => 0), (fun _ => 0), (fun _ => 0), S.2.2.2.1, S.2.2.2.2.1, S.2.2.2.2.2.1, S.2.2.2.2.2.2)).2).1, ((lf_X7_lay_44 from9 by9 S.1 S.2.1 S.2.2.1 9 (0 : Int32) ((fun _ => 0), (fun _ => 0), (fun _ => 0), S.2.2.2.1, S.2.2.2.2.1, S.2.2.2.2.2.1, S.2.2.2.2.2.2)).2).2.1, ((lf_X7_lay_44 from9 by9 S.1 S.2.1 S.2.2.1 9 (0 : Int32) ((fun _ => 0), (fun _ => 0), (fun _ => 0), S.2.2.2.1, S.2.2.2.2.1, S.2.2.2.2.2.1, S.2.2.2.2.2.2)).2).2.2.1, (((lf_X7_lay_44 from9 by9 S.1 S.2.1 S.2.2.1 9 (0 : Int32) ((fun _ => 0), (fun _ => 0), (fun _ => 0), S.2.2.2.1, S.2.2.2.2.1, S.2.2.2.2.2.1, S.2.2.2.2.2.2)).2).2.2.2.1) + 1, ((lf_X7_lay_44 from9 by9 S.1 S.2.1 S.2.2.1 9 (0 : Int32) ((fun _ => 0), (fun _ => 0), (fun _ => 0), S.2.2.2.1, S.2.2.2.2.1, S.2.2.2.2.2.1, S.2.2.2.2.2.2)).2).2.2.2.2.1, ((lf_X7_lay_44 from9 by9 S.1 S.2.1 S.2.2.1 9 (0 : Int32) ((fun _ => 0), (fun _ => 0), (fun _ => 0), S.2.2.2.1, S.2.2.2.2.1, S.2.2.2.2.2.1, S.2.2.2.2.2.2)).2).2.2.2.2.2.1, ((lf_X7_lay_44 from9 by9 S.1 S.2.1 S.2.2.1 9 (0 : Int32) ((fun _ => 0), (fun _ => 0), (fun _ => 0), S.2.2.2.1, S.2.2.2.2.1, S.2.2.2.2.2.1, S.2.2.2.2.2.2)).2).2.2.2.2.2.2))] _ _
  have ze : r_X7_lay from9 by9 S = (r_X7_others S.1 S.2.1 S.2.2.1 (((lf_X7_lay_44 from9 by9 S.1 S.2.1 S.2.2.1 9 (0 : Int32) ((fun _ => 0), (fun _ => 0), (fun _ => 0), S.2.2.2.1, S.2.2.2.2.1, S.2.2.2.2.2.1, S.2.2.2.2.2.2)).2).1, ((lf_X7_lay_44 from9 by9 S.1 S.2.1 S.2.2.1 9 (0 : Int32) ((fun _ => 0), (fun _ => 0), (fun _ => 0), S.2.2.2.1, S.2.2.2.2.1, S.2.2.2.2.2.1, S.2.2.2.2.2.2)).2).2.1, ((lf_X7_lay_44 from9 by9 S.1 S.2.1 S.2.2.1 9 (0 : Int32) ((fun _ => 0), (fun _ => 0), (fun _ => 0), S.2.2.2.1, S.2.2.2.2.1, S.2.2.2.2.2.1, S.2.2.2.2.2.2)).2).2.2.1, (((lf_X7_lay_44 from9 by9 S.1 S.2.1 S.2.2.1 9 (0 : Int32) ((fun _ => 0), (fun _ => 0), (fun _ => 0), S.2.2.2.1, S.2.2.2.2.1, S.2.2.2.2.2.1, S.2.2.2.2.2.2)).2).2.2.2.1) + 1, ((lf_X7_lay_44 from9 by9 S.1 S.2.1 S.2.2.1 9 (0 : Int32) ((fun _ => 0), (fun _ => 0), (fun _ => 0), S.2.2.2.1, S.2.2.2.2.1, S.2.2.2.2.2.1, S.2.2.2.2.2.2)).2).2.2.2.2.1, ((lf_X7_lay_44 from9 by9 S.1 S.2.1 S.2.2.1 9 (0 : Int32) ((fun _ => 0), (fun _ => 0), (fun _ => 0), S.2.2.2.1, S.2.2.2.2.1, S.2.2.2.2.2.1, S.2.2.2.2.2.2)).2).2.2.2.2.2.1, ((lf_X7_lay_44 from9 by9 S.1 S.2.1 S.2.2.1 9 (0 : Int32) ((fun _ => 0), (fun _ => 0), (fun _ => 0), S.2.2.2.1, S.2.2.2.2.1, S.2.2.2.2.2.1, S.2.2.2.2.2.2)).2).2.2.2.2.2.2), (((lf_X7_lay_44 from9 by9 S.1 S.2.1 S.2.2.1 9 (0 : Int32) ((fun _ => 0), (fun _ => 0), (fun _ => 0), S.2.2.2.1, S.2.2.2.2.1, S.2.2.2.2.2.1, S.2.2.2.2.2.2)).2).1, ((lf_X7_lay_44 from9 by9 S.1 S.2.1 S.2.2.1 9 (0 : Int32) ((fun _ => 0), (fun _ => 0), (fun _ => 0), S.2.2.2.1, S.2.2.2.2.1, S.2.2.2.2.2.1, S.2.2.2.2.2.2)).2).2.1, ((lf_X7_lay_44 from9 by9 S.1 S.2.1 S.2.2.1 9 (0 : Int32) ((fun _ => 0), (fun _ => 0), (fun _ => 0), S.2.2.2.1, S.2.2.2.2.1, S.2.2.2.2.2.1, S.2.2.2.2.2.2)).2).2.2.1, (((lf_X7_lay_44 from9 by9 S.1 S.2.1 S.2.2.1 9 (0 : Int32) ((fun _ => 0), (fun _ => 0), (fun _ => 0), S.2.2.2.1, S.2.2.2.2.1, S.2.2.2.2.2.1, S.2.2.2.2.2.2)).2).2.2.2.1) + 1, ((lf_X7_lay_44 from9 by9 S.1 S.2.1 S.2.2.1 9 (0 : Int32) ((fun _ => 0), (fun _ => 0), (fun _ => 0), S.2.2.2.1, S.2.2.2.2.1, S.2.2.2.2.2.1, S.2.2.2.2.2.2)).2).2.2.2.2.1, ((lf_X7_lay_44 from9 by9 S.1 S.2.1 S.2.2.1 9 (0 : Int32) ((fun _ => 0), (fun _ => 0), (fun _ => 0), S.2.2.2.1, S.2.2.2.2.1, S.2.2.2.2.2.1, S.2.2.2.2.2.2)).2).2.2.2.2.2.1, ((lf_X7_lay_44 from9 by9 S.1 S.2.1 S.2.2.1 9 (0 : Int32) ((fun _ => 0), (fun _ => 0), (fun _ => 0), S.2.2.2.1, S.2.2.2.2.1, S.2.2.2.2.2.1, S.2.2.2.2.2.2)).2).2.2.2.2.2.2)) := by
    rw [r_X7_lay]
  exact qq_iret dX7_lay_89 rfl rfl ⟨by rw [ze], _, by rw [ze]; exact hS3, (fr_f hn3 (fr_f hn3 frB fr2) fr3)⟩
def r_X7_row (from9 : Int32) (by9 : Int32)  (S : sM) : Int32 × sM := if (f_X7_isIn from9 (-160) 160) = 0 then (0, (S.1, S.2.1, S.2.2.1, S.2.2.2.1, S.2.2.2.2.1, S.2.2.2.2.2.1, 1)) else if (f_X7_isIn by9 (-40) 40) = 0 then (0, (S.1, S.2.1, S.2.2.1, S.2.2.2.1, S.2.2.2.2.1, S.2.2.2.2.2.1, 1)) else if (f_X7_isIn (from9 + (7 * by9)) (-160) 160) = 0 then ((r_X7_refused (S.1, S.2.1, S.2.2.1, S.2.2.2.1, S.2.2.2.2.1, S.2.2.2.2.2.1, 0)).1, (r_X7_refused (S.1, S.2.1, S.2.2.1, S.2.2.2.1, S.2.2.2.2.1, S.2.2.2.2.2.1, 0)).2) else ((r_X7_lay from9 by9 (S.1, S.2.1, S.2.2.1, S.2.2.2.1, S.2.2.2.2.1, S.2.2.2.2.2.1, 0)).1, (r_X7_lay from9 by9 (S.1, S.2.1, S.2.2.1, S.2.2.2.1, S.2.2.2.2.1, S.2.2.2.2.2.1, 0)).2)
set_option maxRecDepth 4000 in
theorem mt_X7_row (hp : qq_H) (A : qA) (S : sM) (hS : ms_M A S hp) (from9 : Int32) (by9 : Int32)      : qq_Mt mX7_row [.ref 84, .int from9, .int by9] hp 3 24 (fun v hp' => v = some (.int ((r_X7_row from9 by9 S).1)) ∧ ∃ A9 : qA, ms_M A9 ((r_X7_row from9 by9 S).2) hp' ∧ fr A hp hp') (fun _ _ => False) := by
  refine qq_met pn_X7 (Nat.le_of_ble_eq_true rfl) (Nat.le_of_ble_eq_true rfl) kc_X7_row ?_
  show qq_Go _ hp 3 24 0 [(0, .ref 84), (1, .int from9), (2, .int by9)] [] _ _
  refine qq_aload_n dX7_row_0 rfl 0 rfl ?_
  refine qq_iload_n dX7_row_1 rfl 1 rfl ?_
  refine qq_sipush (v := (-160)) dX7_row_2 (by decide) ?_
  refine qq_sipush (v := 160) dX7_row_5 (by decide) ?_
  refine qq_less (bc' := 3 + 0) (bs' := 24 + 0) (by omega) (by omega) ?_
  refine qq_callS (bc := 3) (bs := 24) (mc := 0) (ms := 0) (as := [.int from9, .int (-160), .int 160]) (rest := [.ref 84]) dX7_row_8 (mt_X7_isIn hp from9 (-160 : Int32) (160 : Int32)) rfl kl_X7_113 ks_X7_isIn ki_X7 kc_X7_isIn kd_X7_isIn rfl (by decide) (by decide) (Nat.le_of_ble_eq_true rfl) (fun v hp' hv _ _ => ?_) (fun E hp' zx _ _ => zx.elim)
  obtain ⟨rfl, rfl⟩ := hv
  show qq_Go _ hp (3) (24) 11 [(0, .ref 84), (1, .int from9), (2, .int by9)] [.int (f_X7_isIn from9 (-160) 160), .ref 84] _ _
  refine qq_if_eq (tgt := 29) dX7_row_11 (by decide) (fun zc1 => ?_) (fun zc1 => ?_)
  · refine qq_iconst (v := 1) dX7_row_29 (by decide) ?_
    refine mx_put10 hS dX7_row_30 kl_X7_50 (fun hp1 hS1 fq1 => ?_)
    have fr1 := fq1 A
    replace hS1 : ms_M A (S.1, S.2.1, S.2.2.1, S.2.2.2.1, S.2.2.2.2.1, S.2.2.2.2.2.1, 1) hp1 := hS1
    refine qq_aload_n dX7_row_33 rfl 0 rfl ?_
    refine mx_get hS1 dX7_row_34 10 (by decide) rfl kl_X7_50 ?_
    show qq_Go _ hp1 (3) (24) 37 [(0, .ref 84), (1, .int from9), (2, .int by9)] [.int 1] _ _
    refine qq_if_eq (tgt := 42) dX7_row_37 (by decide) (fun z => absurd z (by decide)) (fun _ => ?_)
    refine qq_iconst (v := 0) dX7_row_40 (by decide) ?_
    have ze : r_X7_row from9 by9 S = (0, (S.1, S.2.1, S.2.2.1, S.2.2.2.1, S.2.2.2.2.1, S.2.2.2.2.2.1, 1)) := by
      rw [r_X7_row, if_pos zc1]
    exact qq_iret dX7_row_41 rfl rfl ⟨by rw [ze], _, by rw [ze]; exact hS1, fr1⟩
  · refine qq_iload_n dX7_row_14 rfl 2 rfl ?_
    refine qq_bipush (v := (-40)) dX7_row_15 (by decide) ?_
    refine qq_bipush (v := 40) dX7_row_17 (by decide) ?_
    refine qq_less (bc' := 3 + 0) (bs' := 24 + 0) (by omega) (by omega) ?_
    refine qq_callS (bc := 3) (bs := 24) (mc := 0) (ms := 0) (as := [.int by9, .int (-40), .int 40]) (rest := [.ref 84]) dX7_row_19 (mt_X7_isIn hp by9 (-40 : Int32) (40 : Int32)) rfl kl_X7_113 ks_X7_isIn ki_X7 kc_X7_isIn kd_X7_isIn rfl (by decide) (by decide) (Nat.le_of_ble_eq_true rfl) (fun v hp' hv _ _ => ?_) (fun E hp' zx _ _ => zx.elim)
    obtain ⟨rfl, rfl⟩ := hv
    show qq_Go _ hp (3) (24) 22 [(0, .ref 84), (1, .int from9), (2, .int by9)] [.int (f_X7_isIn by9 (-40) 40), .ref 84] _ _
    refine qq_if_eq (tgt := 29) dX7_row_22 (by decide) (fun zc2 => ?_) (fun zc2 => ?_)
    · refine qq_iconst (v := 1) dX7_row_29 (by decide) ?_
      refine mx_put10 hS dX7_row_30 kl_X7_50 (fun hp2 hS2 fq2 => ?_)
      have fr2 := fq2 A
      replace hS2 : ms_M A (S.1, S.2.1, S.2.2.1, S.2.2.2.1, S.2.2.2.2.1, S.2.2.2.2.2.1, 1) hp2 := hS2
      refine qq_aload_n dX7_row_33 rfl 0 rfl ?_
      refine mx_get hS2 dX7_row_34 10 (by decide) rfl kl_X7_50 ?_
      show qq_Go _ hp2 (3) (24) 37 [(0, .ref 84), (1, .int from9), (2, .int by9)] [.int 1] _ _
      refine qq_if_eq (tgt := 42) dX7_row_37 (by decide) (fun z => absurd z (by decide)) (fun _ => ?_)
      refine qq_iconst (v := 0) dX7_row_40 (by decide) ?_
      have ze : r_X7_row from9 by9 S = (0, (S.1, S.2.1, S.2.2.1, S.2.2.2.1, S.2.2.2.2.1, S.2.2.2.2.2.1, 1)) := by
        rw [r_X7_row, if_neg zc1, if_pos zc2]
      exact qq_iret dX7_row_41 rfl rfl ⟨by rw [ze], _, by rw [ze]; exact hS2, fr2⟩
    · refine qq_iconst (v := 0) dX7_row_25 (by decide) ?_
      refine qq_goto (tgt := 30) dX7_row_26 (by decide) ?_
      refine mx_put10 hS dX7_row_30 kl_X7_50 (fun hp3 hS3 fq3 => ?_)
      have fr3 := fq3 A
      replace hS3 : ms_M A (S.1, S.2.1, S.2.2.1, S.2.2.2.1, S.2.2.2.2.1, S.2.2.2.2.2.1, 0) hp3 := hS3
      refine qq_aload_n dX7_row_33 rfl 0 rfl ?_
      refine mx_get hS3 dX7_row_34 10 (by decide) rfl kl_X7_50 ?_
      show qq_Go _ hp3 (3) (24) 37 [(0, .ref 84), (1, .int from9), (2, .int by9)] [.int 0] _ _
      refine qq_if_eq (tgt := 42) dX7_row_37 (by decide) (fun _ => ?_) (fun z => absurd (by decide) z)
      refine qq_iload_n dX7_row_42 rfl 1 rfl ?_
      refine qq_bipush (v := 7) dX7_row_43 (by decide) ?_
      refine qq_iload_n dX7_row_45 rfl 2 rfl ?_
      refine qq_imul dX7_row_46 ?_
      refine qq_iadd dX7_row_47 ?_
      refine qq_sipush (v := (-160)) dX7_row_48 (by decide) ?_
      refine qq_sipush (v := 160) dX7_row_51 (by decide) ?_
      refine qq_less (bc' := 3 + 0) (bs' := 24 + 0) (by omega) (by omega) ?_
      refine qq_callS (bc := 3) (bs := 24) (mc := 0) (ms := 0) (as := [.int (from9 + (7 * by9)), .int (-160), .int 160]) (rest := []) dX7_row_54 (mt_X7_isIn hp3 (from9 + (7 * by9)) (-160 : Int32) (160 : Int32)) rfl kl_X7_113 ks_X7_isIn ki_X7 kc_X7_isIn kd_X7_isIn rfl (by decide) (by decide) (Nat.le_of_ble_eq_true rfl) (fun v hp' hv _ _ => ?_) (fun E hp' zx _ _ => zx.elim)
      obtain ⟨rfl, rfl⟩ := hv
      show qq_Go _ hp3 (3) (24) 57 [(0, .ref 84), (1, .int from9), (2, .int by9)] [.int (f_X7_isIn (from9 + (7 * by9)) (-160) 160)] _ _
      refine qq_if_ne (tgt := 65) dX7_row_57 (by decide) (fun zc3 => ?_) (fun zc3 => ?_)
      · refine qq_aload_n dX7_row_65 rfl 0 rfl ?_
        refine qq_iload_n dX7_row_66 rfl 1 rfl ?_
        refine qq_iload_n dX7_row_67 rfl 2 rfl ?_
        refine qq_less (bc' := 0 + 3) (bs' := 0 + 24) (by omega) (by omega) ?_
        refine qq_callV (bc := 0) (bs := 0) (mc := 3) (ms := 24) (o := 84) (ci := 4) (N := 11) (T := TX7) (as := [.int from9, .int by9]) (rest := []) dX7_row_68 hS3.2.2.1 (by decide) rfl (mt_X7_lay hp3 A (S.1, S.2.1, S.2.2.1, S.2.2.2.1, S.2.2.2.2.1, S.2.2.2.2.2.1, 0) hS3 from9 by9 ) rfl kl_X7_137 kn_X7_lay ke_X7_lay ki_X7 kc_X7_lay kd_X7_lay rfl (by decide) (by decide) (Nat.le_of_ble_eq_true rfl) (fun v hp4 hv _ _ => ?_) (fun E hp' zx _ _ => zx.elim)
        obtain ⟨rfl, A4, hS4, fr4⟩ := hv
        show qq_Go _ hp4 (0) (0) 71 [(0, .ref 84), (1, .int from9), (2, .int by9)] [.int ((r_X7_lay from9 by9 (S.1, S.2.1, S.2.2.1, S.2.2.2.1, S.2.2.2.2.1, S.2.2.2.2.2.1, 0)).1)] _ _
        have ze : r_X7_row from9 by9 S = ((r_X7_lay from9 by9 (S.1, S.2.1, S.2.2.1, S.2.2.2.1, S.2.2.2.2.1, S.2.2.2.2.2.1, 0)).1, (r_X7_lay from9 by9 (S.1, S.2.1, S.2.2.1, S.2.2.2.1, S.2.2.2.2.1, S.2.2.2.2.2.1, 0)).2) := by
          rw [r_X7_row, if_neg zc1, if_neg zc2, if_neg zc3]
        exact qq_iret dX7_row_71 rfl rfl ⟨by rw [ze], _, by rw [ze]; exact hS4, (fr_t fr3 fr4)⟩
      · refine qq_aload_n dX7_row_60 rfl 0 rfl ?_
        refine qq_less (bc' := 3 + 0) (bs' := 24 + 0) (by omega) (by omega) ?_
        refine qq_callV (bc := 3) (bs := 24) (mc := 0) (ms := 0) (o := 84) (ci := 4) (N := 11) (T := TX7) (as := []) (rest := []) dX7_row_61 hS3.2.2.1 (by decide) rfl (mt_X7_refused hp3 A (S.1, S.2.1, S.2.2.1, S.2.2.2.1, S.2.2.2.2.1, S.2.2.2.2.2.1, 0) hS3 ) rfl kl_X7_134 kn_X7_refused ke_X7_refused ki_X7 kc_X7_refused kd_X7_refused rfl (by decide) (by decide) (Nat.le_of_ble_eq_true rfl) (fun v hp5 hv _ _ => ?_) (fun E hp' zx _ _ => zx.elim)
        obtain ⟨rfl, hS5, fr5⟩ := hv
        show qq_Go _ hp5 (3) (24) 64 [(0, .ref 84), (1, .int from9), (2, .int by9)] [.int ((r_X7_refused (S.1, S.2.1, S.2.2.1, S.2.2.2.1, S.2.2.2.2.1, S.2.2.2.2.2.1, 0)).1)] _ _
        have ze : r_X7_row from9 by9 S = ((r_X7_refused (S.1, S.2.1, S.2.2.1, S.2.2.2.1, S.2.2.2.2.1, S.2.2.2.2.2.1, 0)).1, (r_X7_refused (S.1, S.2.1, S.2.2.1, S.2.2.2.1, S.2.2.2.2.1, S.2.2.2.2.2.1, 0)).2) := by
          rw [r_X7_row, if_neg zc1, if_neg zc2, if_pos zc3]
        exact qq_iret dX7_row_64 rfl rfl ⟨by rw [ze], _, by rw [ze]; exact hS5, (fr_t fr3 fr5)⟩
def r_X7_wipe   (S : sM) : Int32 × sM := ((r_X7_lay (0 : Int32) (0 : Int32) (S.1, S.2.1, S.2.2.1, S.2.2.2.1, S.2.2.2.2.1, S.2.2.2.2.2.1, 0)).1, (r_X7_lay (0 : Int32) (0 : Int32) (S.1, S.2.1, S.2.2.1, S.2.2.2.1, S.2.2.2.2.1, S.2.2.2.2.2.1, 0)).2)
set_option maxRecDepth 4000 in
theorem mt_X7_wipe (hp : qq_H) (A : qA) (S : sM) (hS : ms_M A S hp)       : qq_Mt mX7_wipe [.ref 84] hp 3 24 (fun v hp' => v = some (.int ((r_X7_wipe S).1)) ∧ ∃ A9 : qA, ms_M A9 ((r_X7_wipe S).2) hp' ∧ fr A hp hp') (fun _ _ => False) := by
  refine qq_met pn_X7 (Nat.le_of_ble_eq_true rfl) (Nat.le_of_ble_eq_true rfl) kc_X7_wipe ?_
  show qq_Go _ hp 3 24 0 [(0, .ref 84)] [] _ _
  refine qq_aload_n dX7_wipe_0 rfl 0 rfl ?_
  refine qq_iconst (v := 0) dX7_wipe_1 (by decide) ?_
  refine mx_put10 hS dX7_wipe_2 kl_X7_50 (fun hp1 hS1 fq1 => ?_)
  have fr1 := fq1 A
  replace hS1 : ms_M A (S.1, S.2.1, S.2.2.1, S.2.2.2.1, S.2.2.2.2.1, S.2.2.2.2.2.1, 0) hp1 := hS1
  refine qq_aload_n dX7_wipe_5 rfl 0 rfl ?_
  refine qq_iconst (v := 0) dX7_wipe_6 (by decide) ?_
  refine qq_iconst (v := 0) dX7_wipe_7 (by decide) ?_
  refine qq_less (bc' := 0 + 3) (bs' := 0 + 24) (by omega) (by omega) ?_
  refine qq_callV (bc := 0) (bs := 0) (mc := 3) (ms := 24) (o := 84) (ci := 4) (N := 11) (T := TX7) (as := [.int 0, .int 0]) (rest := []) dX7_wipe_8 hS1.2.2.1 (by decide) rfl (mt_X7_lay hp1 A (S.1, S.2.1, S.2.2.1, S.2.2.2.1, S.2.2.2.2.1, S.2.2.2.2.2.1, 0) hS1 (0 : Int32) (0 : Int32) ) rfl kl_X7_137 kn_X7_lay ke_X7_lay ki_X7 kc_X7_lay kd_X7_lay rfl (by decide) (by decide) (Nat.le_of_ble_eq_true rfl) (fun v hp2 hv _ _ => ?_) (fun E hp' zx _ _ => zx.elim)
  obtain ⟨rfl, A2, hS2, fr2⟩ := hv
  show qq_Go _ hp2 (0) (0) 11 [(0, .ref 84)] [.int ((r_X7_lay (0 : Int32) (0 : Int32) (S.1, S.2.1, S.2.2.1, S.2.2.2.1, S.2.2.2.2.1, S.2.2.2.2.2.1, 0)).1)] _ _
  have ze : r_X7_wipe S = ((r_X7_lay (0 : Int32) (0 : Int32) (S.1, S.2.1, S.2.2.1, S.2.2.2.1, S.2.2.2.2.1, S.2.2.2.2.2.1, 0)).1, (r_X7_lay (0 : Int32) (0 : Int32) (S.1, S.2.1, S.2.2.1, S.2.2.2.1, S.2.2.2.2.1, S.2.2.2.2.2.1, 0)).2) := by
    rw [r_X7_wipe]
  exact qq_iret dX7_wipe_11 rfl rfl ⟨by rw [ze], _, by rw [ze]; exact hS2, (fr_t fr1 fr2)⟩