def lf_X7_digest_192 (k9 : Int32)  : Nat → Int64 → Int32 → sM → Int64 × Int32
  | 0, d9, w9, S => (d9, w9)
  | fu + 1, d9, w9, S => if 4 ≤ w9 then (d9, w9) else lf_X7_digest_192 k9 fu ((d9 * 31) + (((r_X7_before w9 k9 S).1).toInt64)) (w9 + 1) S
set_option maxRecDepth 4000 in
theorem lq_X7_digest_192 (k9 : Int32) (A : qA) (S : sM)  (zI : IM S) (zH : IH S) (zk9 : vp_in k9 8) {P : Option Value → qq_H → Prop} {PX : String → qq_H → Prop} : ∀ (fu : Nat) (d9 : Int64) (w9 : Int32) (x9 : Int32) (hp : qq_H) , ms_M A (th x9 S) hp → ((4 : Int32).toInt - w9.toInt).toNat < fu → ∀ (bc bs : Nat), (∀ (hp' : qq_H) (x8 : Int32), ms_M A (th x8 S) hp' → fr A hp hp' → qq_Go mX7_digest hp' bc bs 219 [(0, .ref 84), (1, .long ((lf_X7_digest_192 k9 fu d9 w9 S).1)), (3, .int k9)] [] P PX) → qq_Go mX7_digest hp (36 * fu + bc) (396 * fu + bs) 192 [(0, .ref 84), (1, .long d9), (3, .int k9), (4, .int w9)] [] P PX := by
  intro fu
  induction fu with
  | zero => intro d9 w9 x9 hp hS zz; exact absurd zz (Nat.not_lt_zero _)
  | succ fu lqih =>
    intro d9 w9 x9 hp hS zh bc bs hk
    refine qq_iload dX7_digest_192 3 rfl ?_
    refine qq_iconst (v := 4) dX7_digest_194 (by decide) ?_
    refine qq_icmp_ge (tgt := 219) dX7_digest_195 (by decide) (fun zc1 => ?_) (fun zc1 => ?_)
    · have ze : lf_X7_digest_192 k9 (fu + 1) d9 w9 S = (d9, w9) := by
        rw [lf_X7_digest_192, if_pos zc1]
      rw [ze] at hk
      refine qq_loc [0, 1, 2] rfl ?_
      refine qq_less (bc' := bc) (bs' := bs) (by omega) (by omega) ?_
      exact hk hp x9 hS (fr_r _ _)
    · refine qq_lload_n dX7_digest_198 rfl 1 rfl ?_
      refine qq_ldc2 (v := 31) dX7_digest_199 kl_X7_271 ?_
      refine qq_lmul dX7_digest_202 ?_
      refine qq_aload_n dX7_digest_203 rfl 0 rfl ?_
      refine qq_iload dX7_digest_204 3 rfl ?_
      refine qq_iload_n dX7_digest_206 rfl 2 rfl ?_
      refine qq_less (bc' := 36 * fu + bc + 36) (bs' := 396 * fu + bs + 396) (by omega) (by omega) ?_
      refine qq_callV (bc := 36 * fu + bc) (bs := 396 * fu + bs) (mc := 36) (ms := 396) (o := 84) (ci := 4) (N := 11) (T := TX7) (as := [.int w9, .int k9]) (rest := [.long (d9 * 31)]) dX7_digest_207 hS.2.2.1 (by decide) rfl (mo_X7_before hp A x9 S hS w9 k9 zI) rfl kl_X7_301 kn_X7_before ke_X7_before ki_X7 kc_X7_before kd_X7_before rfl (by decide) (by decide) (Nat.le_of_ble_eq_true rfl) (fun v hp1 hv _ _ => ?_) (fun E hp' zx _ _ => zx.elim)
      obtain ⟨rfl, hS1, fr1⟩ := hv
      obtain ⟨x1, ex1⟩ : ∃ x, x = (r_X7_before w9 k9 S).2.2.2.2.2.2.2 := ⟨_, rfl⟩
      rw [← ex1] at hS1
      show qq_Go _ hp1 (36 * fu + bc) (396 * fu + bs) 210 [(0, .ref 84), (1, .long d9), (3, .int k9), (4, .int w9)] [.int ((r_X7_before w9 k9 S).1), .long (d9 * 31)] _ _
      refine qq_i2l dX7_digest_210 ?_
      refine qq_ladd dX7_digest_211 ?_
      refine qq_lstore_n (loc' := [(0, .ref 84), (1, .long ((d9 * 31) + (((r_X7_before w9 k9 S).1).toInt64))), (3, .int k9), (4, .int w9)]) dX7_digest_212 rfl [1, 0, 2, 3] (Nat.le_of_ble_eq_true rfl) rfl ?_
      refine qq_iinc (v := w9 + 1) (loc' := [(0, .ref 84), (1, .long ((d9 * 31) + (((r_X7_before w9 k9 S).1).toInt64))), (3, .int k9), (4, .int (w9 + 1))]) dX7_digest_213 3 rfl rfl [1, 2, 3, 0] (Nat.le_of_ble_eq_true rfl) rfl ?_
      refine qq_goto (tgt := 192) dX7_digest_216 (by decide) ?_
      have ze : lf_X7_digest_192 k9 (fu + 1) d9 w9 S = lf_X7_digest_192 k9 fu ((d9 * 31) + (((r_X7_before w9 k9 S).1).toInt64)) (w9 + 1) S := by
        rw [lf_X7_digest_192, if_neg zc1]
      rw [ze] at hk
      refine qq_less (bc' := 36 * fu + bc) (bs' := 396 * fu + bs) (by omega) (by omega) ?_
      exact lqih ((d9 * 31) + (((r_X7_before w9 k9 S).1).toInt64)) (w9 + 1) x1 hp1 hS1 (qm_up zc1 zh) bc bs (fun hq x8 h1 h2 => hk hq x8 h1 (fr_t fr1 h2))
def lf_X7_digest_6   : Nat → Int64 → Int32 → sM → Int64 × Int32
  | 0, d9, k9, S => (d9, k9)
  | fu + 1, d9, k9, S => if 8 ≤ k9 then (d9, k9) else if ((r_X7_isBelow k9 S).1) = 0 then if (r_X7_isUntold k9 S) = 0 then if (r_X7_isNought k9 S) = 0 then if (S.1 k9.toNatClampNeg) ≤ 1 then lf_X7_digest_6 fu ((lf_X7_digest_192 k9 5 ((((((((((((((((((((d9 * 31) + (((r_X7_kind k9 S).1).toInt64)) * 31) + (((r_X7_of k9 S).1).toInt64)) * 31) + ((0 : Int32).toInt64)) * 31) + (((r_X7_height k9 S).1).toInt64)) * 31) + (((r_X7_digits k9 S).1).toInt64)) * 31) + (((r_X7_upper k9 S).1).toInt64)) * 31) + (((r_X7_lower k9 S).1).toInt64)) * 31) + (((r_X7_find k9 (0 : Int32) S).1).toInt64)) * 31) + (((r_X7_find k9 (1 : Int32) S).1).toInt64)) * 31) + (((r_X7_rank k9 S).1).toInt64)) (0 : Int32) S).1) (k9 + 1) S else lf_X7_digest_6 fu ((lf_X7_digest_192 k9 5 (((((((((((((((((d9 * 31) + (((r_X7_kind k9 S).1).toInt64)) * 31) + (((r_X7_of k9 S).1).toInt64)) * 31) + ((0 : Int32).toInt64)) * 31) + (((r_X7_height k9 S).1).toInt64)) * 31) + (((r_X7_digits k9 S).1).toInt64)) * 31) * 31) + (((r_X7_find k9 (0 : Int32) S).1).toInt64)) * 31) + (((r_X7_find k9 (1 : Int32) S).1).toInt64)) * 31) + (((r_X7_rank k9 S).1).toInt64)) (0 : Int32) S).1) (k9 + 1) S else if (S.1 k9.toNatClampNeg) ≤ 1 then lf_X7_digest_6 fu ((lf_X7_digest_192 k9 5 (((((((((((((((((d9 * 31) + (((r_X7_kind k9 S).1).toInt64)) * 31) + (((r_X7_of k9 S).1).toInt64)) * 31) + ((0 : Int32).toInt64)) * 31) * 31) + (((r_X7_upper k9 S).1).toInt64)) * 31) + (((r_X7_lower k9 S).1).toInt64)) * 31) + (((r_X7_find k9 (0 : Int32) S).1).toInt64)) * 31) + (((r_X7_find k9 (1 : Int32) S).1).toInt64)) * 31) + (((r_X7_rank k9 S).1).toInt64)) (0 : Int32) S).1) (k9 + 1) S else lf_X7_digest_6 fu ((lf_X7_digest_192 k9 5 ((((((((((((((d9 * 31) + (((r_X7_kind k9 S).1).toInt64)) * 31) + (((r_X7_of k9 S).1).toInt64)) * 31) + ((0 : Int32).toInt64)) * 31) * 31) * 31) + (((r_X7_find k9 (0 : Int32) S).1).toInt64)) * 31) + (((r_X7_find k9 (1 : Int32) S).1).toInt64)) * 31) + (((r_X7_rank k9 S).1).toInt64)) (0 : Int32) S).1) (k9 + 1) S else if (S.1 k9.toNatClampNeg) ≤ 1 then lf_X7_digest_6 fu ((lf_X7_digest_192 k9 5 (((((((((((((((((d9 * 31) + (((r_X7_kind k9 S).1).toInt64)) * 31) + (((r_X7_of k9 S).1).toInt64)) * 31) + ((0 : Int32).toInt64)) * 31) * 31) + (((r_X7_upper k9 S).1).toInt64)) * 31) + (((r_X7_lower k9 S).1).toInt64)) * 31) + (((r_X7_find k9 (0 : Int32) S).1).toInt64)) * 31) + (((r_X7_find k9 (1 : Int32) S).1).toInt64)) * 31) + (((r_X7_rank k9 S).1).toInt64)) (0 : Int32) S).1) (k9 + 1) S else lf_X7_digest_6 fu ((lf_X7_digest_192 k9 5 ((((((((((((((d9 * 31) + (((r_X7_kind k9 S).1).toInt64)) * 31) + (((r_X7_of k9 S).1).toInt64)) * 31) + ((0 : Int32).toInt64)) * 31) * 31) * 31) + (((r_X7_find k9 (0 : Int32) S).1).toInt64)) * 31) + (((r_X7_find k9 (1 : Int32) S).1).toInt64)) * 31) + (((r_X7_rank k9 S).1).toInt64)) (0 : Int32) S).1) (k9 + 1) S else if (r_X7_isUntold k9 S) = 0 then if (r_X7_isNought k9 S) = 0 then if (S.1 k9.toNatClampNeg) ≤ 1 then lf_X7_digest_6 fu ((lf_X7_digest_192 k9 5 ((((((((((((((((((((d9 * 31) + (((r_X7_kind k9 S).1).toInt64)) * 31) + (((r_X7_of k9 S).1).toInt64)) * 31) + ((1 : Int32).toInt64)) * 31) + (((r_X7_height k9 S).1).toInt64)) * 31) + (((r_X7_digits k9 S).1).toInt64)) * 31) + (((r_X7_upper k9 S).1).toInt64)) * 31) + (((r_X7_lower k9 S).1).toInt64)) * 31) + (((r_X7_find k9 (0 : Int32) S).1).toInt64)) * 31) + (((r_X7_find k9 (1 : Int32) S).1).toInt64)) * 31) + (((r_X7_rank k9 S).1).toInt64)) (0 : Int32) S).1) (k9 + 1) S else lf_X7_digest_6 fu ((lf_X7_digest_192 k9 5 (((((((((((((((((d9 * 31) + (((r_X7_kind k9 S).1).toInt64)) * 31) + (((r_X7_of k9 S).1).toInt64)) * 31) + ((1 : Int32).toInt64)) * 31) + (((r_X7_height k9 S).1).toInt64)) * 31) + (((r_X7_digits k9 S).1).toInt64)) * 31) * 31) + (((r_X7_find k9 (0 : Int32) S).1).toInt64)) * 31) + (((r_X7_find k9 (1 : Int32) S).1).toInt64)) * 31) + (((r_X7_rank k9 S).1).toInt64)) (0 : Int32) S).1) (k9 + 1) S else if (S.1 k9.toNatClampNeg) ≤ 1 then lf_X7_digest_6 fu ((lf_X7_digest_192 k9 5 (((((((((((((((((d9 * 31) + (((r_X7_kind k9 S).1).toInt64)) * 31) + (((r_X7_of k9 S).1).toInt64)) * 31) + ((1 : Int32).toInt64)) * 31) * 31) + (((r_X7_upper k9 S).1).toInt64)) * 31) + (((r_X7_lower k9 S).1).toInt64)) * 31) + (((r_X7_find k9 (0 : Int32) S).1).toInt64)) * 31) + (((r_X7_find k9 (1 : Int32) S).1).toInt64)) * 31) + (((r_X7_rank k9 S).1).toInt64)) (0 : Int32) S).1) (k9 + 1) S else lf_X7_digest_6 fu ((lf_X7_digest_192 k9 5 ((((((((((((((d9 * 31) + (((r_X7_kind k9 S).1).toInt64)) * 31) + (((r_X7_of k9 S).1).toInt64)) * 31) + ((1 : Int32).toInt64)) * 31) * 31) * 31) + (((r_X7_find k9 (0 : Int32) S).1).toInt64)) * 31) + (((r_X7_find k9 (1 : Int32) S).1).toInt64)) * 31) + (((r_X7_rank k9 S).1).toInt64)) (0 : Int32) S).1) (k9 + 1) S else if (S.1 k9.toNatClampNeg) ≤ 1 then lf_X7_digest_6 fu ((lf_X7_digest_192 k9 5 (((((((((((((((((d9 * 31) + (((r_X7_kind k9 S).1).toInt64)) * 31) + (((r_X7_of k9 S).1).toInt64)) * 31) + ((1 : Int32).toInt64)) * 31) * 31) + (((r_X7_upper k9 S).1).toInt64)) * 31) + (((r_X7_lower k9 S).1).toInt64)) * 31) + (((r_X7_find k9 (0 : Int32) S).1).toInt64)) * 31) + (((r_X7_find k9 (1 : Int32) S).1).toInt64)) * 31) + (((r_X7_rank k9 S).1).toInt64)) (0 : Int32) S).1) (k9 + 1) S else lf_X7_digest_6 fu ((lf_X7_digest_192 k9 5 ((((((((((((((d9 * 31) + (((r_X7_kind k9 S).1).toInt64)) * 31) + (((r_X7_of k9 S).1).toInt64)) * 31) + ((1 : Int32).toInt64)) * 31) * 31) * 31) + (((r_X7_find k9 (0 : Int32) S).1).toInt64)) * 31) + (((r_X7_find k9 (1 : Int32) S).1).toInt64)) * 31) + (((r_X7_rank k9 S).1).toInt64)) (0 : Int32) S).1) (k9 + 1) S
set_option maxRecDepth 4000 in
theorem lq_X7_digest_6  (A : qA) (S : sM)  (zI : IM S) (zH : IH S) {P : Option Value → qq_H → Prop} {PX : String → qq_H → Prop} : ∀ (fu : Nat) (d9 : Int64) (k9 : Int32) (x9 : Int32) (hp : qq_H) , ms_M A (th x9 S) hp → ¬ k9 < 0 → ((8 : Int32).toInt - k9.toInt).toNat < fu → ∀ (bc bs : Nat), (∀ (hp' : qq_H) (x8 : Int32), ms_M A (th x8 S) hp' → fr A hp hp' → qq_Go mX7_digest hp' bc bs 225 [(0, .ref 84), (1, .long ((lf_X7_digest_6 fu d9 k9 S).1))] [] P PX) → qq_Go mX7_digest hp (250 * fu + bc) (2750 * fu + bs) 6 [(0, .ref 84), (1, .long d9), (3, .int k9)] [] P PX := by
  intro fu
  induction fu with
  | zero => intro d9 k9 x9 hp hS zp zz; exact absurd zz (Nat.not_lt_zero _)
  | succ fu lqih =>
    intro d9 k9 x9 hp hS zp zh bc bs hk
    refine qq_iload_n dX7_digest_6 rfl 2 rfl ?_
    refine qq_bipush (v := 8) dX7_digest_7 (by decide) ?_
    refine qq_icmp_ge (tgt := 225) dX7_digest_9 (by decide) (fun zc1 => ?_) (fun zc1 => ?_)
    · have ze : lf_X7_digest_6 (fu + 1) d9 k9 S = (d9, k9) := by
        rw [lf_X7_digest_6, if_pos zc1]
      rw [ze] at hk
      refine qq_loc [0, 1] rfl ?_
      refine qq_less (bc' := bc) (bs' := bs) (by omega) (by omega) ?_
      exact hk hp x9 hS (fr_r _ _)
    · refine qq_lload_n dX7_digest_12 rfl 1 rfl ?_
      refine qq_ldc2 (v := 31) dX7_digest_13 kl_X7_271 ?_
      refine qq_lmul dX7_digest_16 ?_
      refine qq_aload_n dX7_digest_17 rfl 0 rfl ?_
      refine qq_iload_n dX7_digest_18 rfl 2 rfl ?_
      refine qq_less (bc' := 250 * fu + bc + 250 + 0) (bs' := 2750 * fu + bs + 2750 + 0) (by omega) (by omega) ?_
      refine qq_callV (bc := 250 * fu + bc + 250) (bs := 2750 * fu + bs + 2750) (mc := 0) (ms := 0) (o := 84) (ci := 4) (N := 11) (T := TX7) (as := [.int k9]) (rest := [.long (d9 * 31)]) dX7_digest_19 hS.2.2.1 (by decide) rfl (mo_X7_kind hp A x9 S hS k9 ) rfl kl_X7_273 kn_X7_kind ke_X7_kind ki_X7 kc_X7_kind kd_X7_kind rfl (by decide) (by decide) (Nat.le_of_ble_eq_true rfl) (fun v hp1 hv _ _ => ?_) (fun E hp' zx _ _ => zx.elim)
      obtain ⟨rfl, hS1, fr1⟩ := hv
      obtain ⟨x1, ex1⟩ : ∃ x, x = (r_X7_kind k9 S).2.2.2.2.2.2.2 := ⟨_, rfl⟩
      rw [← ex1] at hS1
      show qq_Go _ hp1 (250 * fu + bc + 250) (2750 * fu + bs + 2750) 22 [(0, .ref 84), (1, .long d9), (3, .int k9)] [.int ((r_X7_kind k9 S).1), .long (d9 * 31)] _ _
      refine qq_i2l dX7_digest_22 ?_
      refine qq_ladd dX7_digest_23 ?_
      refine qq_lstore_n (loc' := [(0, .ref 84), (1, .long ((d9 * 31) + (((r_X7_kind k9 S).1).toInt64))), (3, .int k9)]) dX7_digest_24 rfl [1, 0, 2] (Nat.le_of_ble_eq_true rfl) rfl ?_
      refine qq_lload_n dX7_digest_25 rfl 1 rfl ?_
      refine qq_ldc2 (v := 31) dX7_digest_26 kl_X7_271 ?_
      refine qq_lmul dX7_digest_29 ?_
      refine qq_aload_n dX7_digest_30 rfl 0 rfl ?_
      refine qq_iload_n dX7_digest_31 rfl 2 rfl ?_
      refine qq_less (bc' := 250 * fu + bc + 250 + 0) (bs' := 2750 * fu + bs + 2750 + 0) (by omega) (by omega) ?_
      refine qq_callV (bc := 250 * fu + bc + 250) (bs := 2750 * fu + bs + 2750) (mc := 0) (ms := 0) (o := 84) (ci := 4) (N := 11) (T := TX7) (as := [.int k9]) (rest := [.long (((d9 * 31) + (((r_X7_kind k9 S).1).toInt64)) * 31)]) dX7_digest_32 hS1.2.2.1 (by decide) rfl (mo_X7_of hp1 A x1 S hS1 k9 ) rfl kl_X7_276 kn_X7_of ke_X7_of ki_X7 kc_X7_of kd_X7_of rfl (by decide) (by decide) (Nat.le_of_ble_eq_true rfl) (fun v hp2 hv _ _ => ?_) (fun E hp' zx _ _ => zx.elim)
      obtain ⟨rfl, hS2, fr2⟩ := hv
      obtain ⟨x2, ex2⟩ : ∃ x, x = (r_X7_of k9 S).2.2.2.2.2.2.2 := ⟨_, rfl⟩
      rw [← ex2] at hS2
      show qq_Go _ hp2 (250 * fu + bc + 250) (2750 * fu + bs + 2750) 35 [(0, .ref 84), (1, .long ((d9 * 31) + (((r_X7_kind k9 S).1).toInt64))), (3, .int k9)] [.int ((r_X7_of k9 S).1), .long (((d9 * 31) + (((r_X7_kind k9 S).1).toInt64)) * 31)] _ _
      refine qq_i2l dX7_digest_35 ?_
      refine qq_ladd dX7_digest_36 ?_
      refine qq_lstore_n (loc' := [(0, .ref 84), (1, .long ((((d9 * 31) + (((r_X7_kind k9 S).1).toInt64)) * 31) + (((r_X7_of k9 S).1).toInt64))), (3, .int k9)]) dX7_digest_37 rfl [1, 0, 2] (Nat.le_of_ble_eq_true rfl) rfl ?_
      refine qq_lload_n dX7_digest_38 rfl 1 rfl ?_
      refine qq_ldc2 (v := 31) dX7_digest_39 kl_X7_271 ?_
      refine qq_lmul dX7_digest_42 ?_
      refine qq_aload_n dX7_digest_43 rfl 0 rfl ?_
      refine qq_iload_n dX7_digest_44 rfl 2 rfl ?_
      refine qq_less (bc' := 250 * fu + bc + 247 + 3) (bs' := 2750 * fu + bs + 2717 + 33) (by omega) (by omega) ?_
      refine qq_callV (bc := 250 * fu + bc + 247) (bs := 2750 * fu + bs + 2717) (mc := 3) (ms := 33) (o := 84) (ci := 4) (N := 11) (T := TX7) (as := [.int k9]) (rest := [.long (((((d9 * 31) + (((r_X7_kind k9 S).1).toInt64)) * 31) + (((r_X7_of k9 S).1).toInt64)) * 31)]) dX7_digest_45 hS2.2.2.1 (by decide) rfl (mo_X7_isBelow hp2 A x2 S hS2 k9 zI) rfl kl_X7_279 kn_X7_isBelow ke_X7_isBelow ki_X7 kc_X7_isBelow kd_X7_isBelow rfl (by decide) (by decide) (Nat.le_of_ble_eq_true rfl) (fun v hp3 hv _ _ => ?_) (fun E hp' zx _ _ => zx.elim)
      obtain ⟨rfl, hS3, fr3⟩ := hv
      obtain ⟨x3, ex3⟩ : ∃ x, x = (r_X7_isBelow k9 S).2.2.2.2.2.2.2 := ⟨_, rfl⟩
      rw [← ex3] at hS3
      show qq_Go _ hp3 (250 * fu + bc + 247) (2750 * fu + bs + 2717) 48 [(0, .ref 84), (1, .long ((((d9 * 31) + (((r_X7_kind k9 S).1).toInt64)) * 31) + (((r_X7_of k9 S).1).toInt64))), (3, .int k9)] [.int ((r_X7_isBelow k9 S).1), .long (((((d9 * 31) + (((r_X7_kind k9 S).1).toInt64)) * 31) + (((r_X7_of k9 S).1).toInt64)) * 31)] _ _
      refine qq_if_eq (tgt := 55) dX7_digest_48 (by decide) (fun zc2 => ?_) (fun zc2 => ?_)
      · refine qq_iconst (v := 0) dX7_digest_55 (by decide) ?_
        refine qq_i2l dX7_digest_56 ?_
        refine qq_ladd dX7_digest_57 ?_
        refine qq_lstore_n (loc' := [(0, .ref 84), (1, .long ((((((d9 * 31) + (((r_X7_kind k9 S).1).toInt64)) * 31) + (((r_X7_of k9 S).1).toInt64)) * 31) + ((0 : Int32).toInt64))), (3, .int k9)]) dX7_digest_58 rfl [1, 0, 2] (Nat.le_of_ble_eq_true rfl) rfl ?_
        refine qq_aload_n dX7_digest_59 rfl 0 rfl ?_
        refine qq_iload_n dX7_digest_60 rfl 2 rfl ?_
        refine qq_less (bc' := 250 * fu + bc + 247 + 0) (bs' := 2750 * fu + bs + 2717 + 0) (by omega) (by omega) ?_
        refine qq_callV (bc := 250 * fu + bc + 247) (bs := 2750 * fu + bs + 2717) (mc := 0) (ms := 0) (o := 84) (ci := 4) (N := 11) (T := TX7) (as := [.int k9]) (rest := []) dX7_digest_61 hS3.2.2.1 (by decide) rfl (mt_X7_isUntold hp3 A (th x3 S) hS3 k9 (qm_in8 zp zc1)) rfl kl_X7_174 kn_X7_isUntold ke_X7_isUntold ki_X7 kc_X7_isUntold kd_X7_isUntold rfl (by decide) (by decide) (Nat.le_of_ble_eq_true rfl) (fun v hp' hv _ _ => ?_) (fun E hp' zx _ _ => zx.elim)
        obtain ⟨rfl, rfl⟩ := hv
        show qq_Go _ hp3 (250 * fu + bc + 247) (2750 * fu + bs + 2717) 64 [(0, .ref 84), (1, .long ((((((d9 * 31) + (((r_X7_kind k9 S).1).toInt64)) * 31) + (((r_X7_of k9 S).1).toInt64)) * 31) + ((0 : Int32).toInt64))), (3, .int k9)] [.int (r_X7_isUntold k9 S)] _ _
        refine qq_if_ne (tgt := 75) dX7_digest_64 (by decide) (fun zc3 => ?_) (fun zc3 => ?_)
        · refine qq_lload_n dX7_digest_75 rfl 1 rfl ?_
          refine qq_ldc2 (v := 31) dX7_digest_76 kl_X7_271 ?_
          refine qq_lmul dX7_digest_79 ?_
          refine qq_lstore_n (loc' := [(0, .ref 84), (1, .long (((((((d9 * 31) + (((r_X7_kind k9 S).1).toInt64)) * 31) + (((r_X7_of k9 S).1).toInt64)) * 31) + ((0 : Int32).toInt64)) * 31)), (3, .int k9)]) dX7_digest_80 rfl [1, 0, 2] (Nat.le_of_ble_eq_true rfl) rfl ?_
          refine qq_goto (tgt := 108) dX7_digest_81 (by decide) ?_
          refine qq_aload_n dX7_digest_108 rfl 0 rfl ?_
          refine mx_get hS3 dX7_digest_109 4 (by decide) rfl kl_X7_28 ?_
          refine qq_iload_n dX7_digest_112 rfl 2 rfl ?_
          refine qq_iald dX7_digest_113 hS3.2.2.2.1 (qm_in8 zp zc1) ?_
          show qq_Go _ hp3 (250 * fu + bc + 247) (2750 * fu + bs + 2717) 114 [(0, .ref 84), (1, .long (((((((d9 * 31) + (((r_X7_kind k9 S).1).toInt64)) * 31) + (((r_X7_of k9 S).1).toInt64)) * 31) + ((0 : Int32).toInt64)) * 31)), (3, .int k9)] [.int (S.1 k9.toNatClampNeg)] _ _
          refine qq_iconst (v := 1) dX7_digest_114 (by decide) ?_
          refine qq_icmp_le (tgt := 126) dX7_digest_115 (by decide) (fun zc4 => ?_) (fun zc4 => ?_)
          · refine qq_lload_n dX7_digest_126 rfl 1 rfl ?_
            refine qq_ldc2 (v := 31) dX7_digest_127 kl_X7_271 ?_
            refine qq_lmul dX7_digest_130 ?_
            refine qq_aload_n dX7_digest_131 rfl 0 rfl ?_
            refine qq_iload_n dX7_digest_132 rfl 2 rfl ?_
            refine qq_less (bc' := 250 * fu + bc + 247 + 0) (bs' := 2750 * fu + bs + 2717 + 0) (by omega) (by omega) ?_
            refine qq_callV (bc := 250 * fu + bc + 247) (bs := 2750 * fu + bs + 2717) (mc := 0) (ms := 0) (o := 84) (ci := 4) (N := 11) (T := TX7) (as := [.int k9]) (rest := [.long ((((((((d9 * 31) + (((r_X7_kind k9 S).1).toInt64)) * 31) + (((r_X7_of k9 S).1).toInt64)) * 31) + ((0 : Int32).toInt64)) * 31) * 31)]) dX7_digest_133 hS3.2.2.1 (by decide) rfl (mo_X7_upper hp3 A x3 S hS3 k9 ) rfl kl_X7_288 kn_X7_upper ke_X7_upper ki_X7 kc_X7_upper kd_X7_upper rfl (by decide) (by decide) (Nat.le_of_ble_eq_true rfl) (fun v hp4 hv _ _ => ?_) (fun E hp' zx _ _ => zx.elim)
            obtain ⟨rfl, hS4, fr4⟩ := hv
            obtain ⟨x4, ex4⟩ : ∃ x, x = (r_X7_upper k9 S).2.2.2.2.2.2.2 := ⟨_, rfl⟩
            rw [← ex4] at hS4
            show qq_Go _ hp4 (250 * fu + bc + 247) (2750 * fu + bs + 2717) 136 [(0, .ref 84), (1, .long (((((((d9 * 31) + (((r_X7_kind k9 S).1).toInt64)) * 31) + (((r_X7_of k9 S).1).toInt64)) * 31) + ((0 : Int32).toInt64)) * 31)), (3, .int k9)] [.int ((r_X7_upper k9 S).1), .long ((((((((d9 * 31) + (((r_X7_kind k9 S).1).toInt64)) * 31) + (((r_X7_of k9 S).1).toInt64)) * 31) + ((0 : Int32).toInt64)) * 31) * 31)] _ _
            refine qq_i2l dX7_digest_136 ?_
            refine qq_ladd dX7_digest_137 ?_
            refine qq_ldc2 (v := 31) dX7_digest_138 kl_X7_271 ?_
            refine qq_lmul dX7_digest_141 ?_
            refine qq_aload_n dX7_digest_142 rfl 0 rfl ?_
            refine qq_iload_n dX7_digest_143 rfl 2 rfl ?_
            refine qq_less (bc' := 250 * fu + bc + 247 + 0) (bs' := 2750 * fu + bs + 2717 + 0) (by omega) (by omega) ?_
            refine qq_callV (bc := 250 * fu + bc + 247) (bs := 2750 * fu + bs + 2717) (mc := 0) (ms := 0) (o := 84) (ci := 4) (N := 11) (T := TX7) (as := [.int k9]) (rest := [.long ((((((((((d9 * 31) + (((r_X7_kind k9 S).1).toInt64)) * 31) + (((r_X7_of k9 S).1).toInt64)) * 31) + ((0 : Int32).toInt64)) * 31) * 31) + (((r_X7_upper k9 S).1).toInt64)) * 31)]) dX7_digest_144 hS4.2.2.1 (by decide) rfl (mo_X7_lower hp4 A x4 S hS4 k9 ) rfl kl_X7_291 kn_X7_lower ke_X7_lower ki_X7 kc_X7_lower kd_X7_lower rfl (by decide) (by decide) (Nat.le_of_ble_eq_true rfl) (fun v hp5 hv _ _ => ?_) (fun E hp' zx _ _ => zx.elim)
            obtain ⟨rfl, hS5, fr5⟩ := hv
            obtain ⟨x5, ex5⟩ : ∃ x, x = (r_X7_lower k9 S).2.2.2.2.2.2.2 := ⟨_, rfl⟩
            rw [← ex5] at hS5
            show qq_Go _ hp5 (250 * fu + bc + 247) (2750 * fu + bs + 2717) 147 [(0, .ref 84), (1, .long (((((((d9 * 31) + (((r_X7_kind k9 S).1).toInt64)) * 31) + (((r_X7_of k9 S).1).toInt64)) * 31) + ((0 : Int32).toInt64)) * 31)), (3, .int k9)] [.int ((r_X7_lower k9 S).1), .long ((((((((((d9 * 31) + (((r_X7_kind k9 S).1).toInt64)) * 31) + (((r_X7_of k9 S).1).toInt64)) * 31) + ((0 : Int32).toInt64)) * 31) * 31) + (((r_X7_upper k9 S).1).toInt64)) * 31)] _ _
            refine qq_i2l dX7_digest_147 ?_
            refine qq_ladd dX7_digest_148 ?_
            refine qq_lstore_n (loc' := [(0, .ref 84), (1, .long (((((((((((d9 * 31) + (((r_X7_kind k9 S).1).toInt64)) * 31) + (((r_X7_of k9 S).1).toInt64)) * 31) + ((0 : Int32).toInt64)) * 31) * 31) + (((r_X7_upper k9 S).1).toInt64)) * 31) + (((r_X7_lower k9 S).1).toInt64))), (3, .int k9)]) dX7_digest_149 rfl [1, 0, 2] (Nat.le_of_ble_eq_true rfl) rfl ?_
            refine qq_lload_n dX7_digest_150 rfl 1 rfl ?_
            refine qq_ldc2 (v := 31) dX7_digest_151 kl_X7_271 ?_
            refine qq_lmul dX7_digest_154 ?_
            refine qq_aload_n dX7_digest_155 rfl 0 rfl ?_
            refine qq_iload_n dX7_digest_156 rfl 2 rfl ?_
            refine qq_iconst (v := 0) dX7_digest_157 (by decide) ?_
            refine qq_less (bc' := 250 * fu + bc + 247 + 0) (bs' := 2750 * fu + bs + 2717 + 0) (by omega) (by omega) ?_
            refine qq_callV (bc := 250 * fu + bc + 247) (bs := 2750 * fu + bs + 2717) (mc := 0) (ms := 0) (o := 84) (ci := 4) (N := 11) (T := TX7) (as := [.int k9, .int 0]) (rest := [.long ((((((((((((d9 * 31) + (((r_X7_kind k9 S).1).toInt64)) * 31) + (((r_X7_of k9 S).1).toInt64)) * 31) + ((0 : Int32).toInt64)) * 31) * 31) + (((r_X7_upper k9 S).1).toInt64)) * 31) + (((r_X7_lower k9 S).1).toInt64)) * 31)]) dX7_digest_158 hS5.2.2.1 (by decide) rfl (mo_X7_find hp5 A x5 S hS5 k9 (0 : Int32) ) rfl kl_X7_294 kn_X7_find ke_X7_find ki_X7 kc_X7_find kd_X7_find rfl (by decide) (by decide) (Nat.le_of_ble_eq_true rfl) (fun v hp6 hv _ _ => ?_) (fun E hp' zx _ _ => zx.elim)
            obtain ⟨rfl, hS6, fr6⟩ := hv
            obtain ⟨x6, ex6⟩ : ∃ x, x = (r_X7_find k9 (0 : Int32) S).2.2.2.2.2.2.2 := ⟨_, rfl⟩
            rw [← ex6] at hS6
            show qq_Go _ hp6 (250 * fu + bc + 247) (2750 * fu + bs + 2717) 161 [(0, .ref 84), (1, .long (((((((((((d9 * 31) + (((r_X7_kind k9 S).1).toInt64)) * 31) + (((r_X7_of k9 S).1).toInt64)) * 31) + ((0 : Int32).toInt64)) * 31) * 31) + (((r_X7_upper k9 S).1).toInt64)) * 31) + (((r_X7_lower k9 S).1).toInt64))), (3, .int k9)] [.int ((r_X7_find k9 (0 : Int32) S).1), .long ((((((((((((d9 * 31) + (((r_X7_kind k9 S).1).toInt64)) * 31) + (((r_X7_of k9 S).1).toInt64)) * 31) + ((0 : Int32).toInt64)) * 31) * 31) + (((r_X7_upper k9 S).1).toInt64)) * 31) + (((r_X7_lower k9 S).1).toInt64)) * 31)] _ _
            refine qq_i2l dX7_digest_161 ?_
            refine qq_ladd dX7_digest_162 ?_
            refine qq_ldc2 (v := 31) dX7_digest_163 kl_X7_271 ?_
            refine qq_lmul dX7_digest_166 ?_
            refine qq_aload_n dX7_digest_167 rfl 0 rfl ?_
            refine qq_iload_n dX7_digest_168 rfl 2 rfl ?_
            refine qq_iconst (v := 1) dX7_digest_169 (by decide) ?_
            refine qq_less (bc' := 250 * fu + bc + 247 + 0) (bs' := 2750 * fu + bs + 2717 + 0) (by omega) (by omega) ?_
            refine qq_callV (bc := 250 * fu + bc + 247) (bs := 2750 * fu + bs + 2717) (mc := 0) (ms := 0) (o := 84) (ci := 4) (N := 11) (T := TX7) (as := [.int k9, .int 1]) (rest := [.long ((((((((((((((d9 * 31) + (((r_X7_kind k9 S).1).toInt64)) * 31) + (((r_X7_of k9 S).1).toInt64)) * 31) + ((0 : Int32).toInt64)) * 31) * 31) + (((r_X7_upper k9 S).1).toInt64)) * 31) + (((r_X7_lower k9 S).1).toInt64)) * 31) + (((r_X7_find k9 (0 : Int32) S).1).toInt64)) * 31)]) dX7_digest_170 hS6.2.2.1 (by decide) rfl (mo_X7_find hp6 A x6 S hS6 k9 (1 : Int32) ) rfl kl_X7_294 kn_X7_find ke_X7_find ki_X7 kc_X7_find kd_X7_find rfl (by decide) (by decide) (Nat.le_of_ble_eq_true rfl) (fun v hp7 hv _ _ => ?_) (fun E hp' zx _ _ => zx.elim)
            obtain ⟨rfl, hS7, fr7⟩ := hv
            obtain ⟨x7, ex7⟩ : ∃ x, x = (r_X7_find k9 (1 : Int32) S).2.2.2.2.2.2.2 := ⟨_, rfl⟩
            rw [← ex7] at hS7
            show qq_Go _ hp7 (250 * fu + bc + 247) (2750 * fu + bs + 2717) 173 [(0, .ref 84), (1, .long (((((((((((d9 * 31) + (((r_X7_kind k9 S).1).toInt64)) * 31) + (((r_X7_of k9 S).1).toInt64)) * 31) + ((0 : Int32).toInt64)) * 31) * 31) + (((r_X7_upper k9 S).1).toInt64)) * 31) + (((r_X7_lower k9 S).1).toInt64))), (3, .int k9)] [.int ((r_X7_find k9 (1 : Int32) S).1), .long ((((((((((((((d9 * 31) + (((r_X7_kind k9 S).1).toInt64)) * 31) + (((r_X7_of k9 S).1).toInt64)) * 31) + ((0 : Int32).toInt64)) * 31) * 31) + (((r_X7_upper k9 S).1).toInt64)) * 31) + (((r_X7_lower k9 S).1).toInt64)) * 31) + (((r_X7_find k9 (0 : Int32) S).1).toInt64)) * 31)] _ _
            refine qq_i2l dX7_digest_173 ?_
            refine qq_ladd dX7_digest_174 ?_
            refine qq_lstore_n (loc' := [(0, .ref 84), (1, .long (((((((((((((((d9 * 31) + (((r_X7_kind k9 S).1).toInt64)) * 31) + (((r_X7_of k9 S).1).toInt64)) * 31) + ((0 : Int32).toInt64)) * 31) * 31) + (((r_X7_upper k9 S).1).toInt64)) * 31) + (((r_X7_lower k9 S).1).toInt64)) * 31) + (((r_X7_find k9 (0 : Int32) S).1).toInt64)) * 31) + (((r_X7_find k9 (1 : Int32) S).1).toInt64))), (3, .int k9)]) dX7_digest_175 rfl [1, 0, 2] (Nat.le_of_ble_eq_true rfl) rfl ?_
            refine qq_lload_n dX7_digest_176 rfl 1 rfl ?_
            refine qq_ldc2 (v := 31) dX7_digest_177 kl_X7_271 ?_
            refine qq_lmul dX7_digest_180 ?_
            refine qq_aload_n dX7_digest_181 rfl 0 rfl ?_
            refine qq_iload_n dX7_digest_182 rfl 2 rfl ?_
            refine qq_less (bc' := 250 * fu + bc + 193 + 54) (bs' := 2750 * fu + bs + 2123 + 594) (by omega) (by omega) ?_
            refine qq_callV (bc := 250 * fu + bc + 193) (bs := 2750 * fu + bs + 2123) (mc := 54) (ms := 594) (o := 84) (ci := 4) (N := 11) (T := TX7) (as := [.int k9]) (rest := [.long ((((((((((((((((d9 * 31) + (((r_X7_kind k9 S).1).toInt64)) * 31) + (((r_X7_of k9 S).1).toInt64)) * 31) + ((0 : Int32).toInt64)) * 31) * 31) + (((r_X7_upper k9 S).1).toInt64)) * 31) + (((r_X7_lower k9 S).1).toInt64)) * 31) + (((r_X7_find k9 (0 : Int32) S).1).toInt64)) * 31) + (((r_X7_find k9 (1 : Int32) S).1).toInt64)) * 31)]) dX7_digest_183 hS7.2.2.1 (by decide) rfl (mo_X7_rank hp7 A x7 S hS7 k9 zI) rfl kl_X7_298 kn_X7_rank ke_X7_rank ki_X7 kc_X7_rank kd_X7_rank rfl (by decide) (by decide) (Nat.le_of_ble_eq_true rfl) (fun v hp8 hv _ _ => ?_) (fun E hp' zx _ _ => zx.elim)
            obtain ⟨rfl, hS8, fr8⟩ := hv
            obtain ⟨x8, ex8⟩ : ∃ x, x = (r_X7_rank k9 S).2.2.2.2.2.2.2 := ⟨_, rfl⟩
            rw [← ex8] at hS8
            show qq_Go _ hp8 (250 * fu + bc + 193) (2750 * fu + bs + 2123) 186 [(0, .ref 84), (1, .long (((((((((((((((d9 * 31) + (((r_X7_kind k9 S).1).toInt64)) * 31) + (((r_X7_of k9 S).1).toInt64)) * 31) + ((0 : Int32).toInt64)) * 31) * 31) + (((r_X7_upper k9 S).1).toInt64)) * 31) + (((r_X7_lower k9 S).1).toInt64)) * 31) + (((r_X7_find k9 (0 : Int32) S).1).toInt64)) * 31) + (((r_X7_find k9 (1 : Int32) S).1).toInt64))), (3, .int k9)] [.int ((r_X7_rank k9 S).1), .long ((((((((((((((((d9 * 31) + (((r_X7_kind k9 S).1).toInt64)) * 31) + (((r_X7_of k9 S).1).toInt64)) * 31) + ((0 : Int32).toInt64)) * 31) * 31) + (((r_X7_upper k9 S).1).toInt64)) * 31) + (((r_X7_lower k9 S).1).toInt64)) * 31) + (((r_X7_find k9 (0 : Int32) S).1).toInt64)) * 31) + (((r_X7_find k9 (1 : Int32) S).1).toInt64)) * 31)] _ _
            refine qq_i2l dX7_digest_186 ?_
            refine qq_ladd dX7_digest_187 ?_
            refine qq_lstore_n (loc' := [(0, .ref 84), (1, .long (((((((((((((((((d9 * 31) + (((r_X7_kind k9 S).1).toInt64)) * 31) + (((r_X7_of k9 S).1).toInt64)) * 31) + ((0 : Int32).toInt64)) * 31) * 31) + (((r_X7_upper k9 S).1).toInt64)) * 31) + (((r_X7_lower k9 S).1).toInt64)) * 31) + (((r_X7_find k9 (0 : Int32) S).1).toInt64)) * 31) + (((r_X7_find k9 (1 : Int32) S).1).toInt64)) * 31) + (((r_X7_rank k9 S).1).toInt64))), (3, .int k9)]) dX7_digest_188 rfl [1, 0, 2] (Nat.le_of_ble_eq_true rfl) rfl ?_
            refine qq_iconst (v := 0) dX7_digest_189 (by decide) ?_
            refine qq_istore (loc' := [(0, .ref 84), (1, .long (((((((((((((((((d9 * 31) + (((r_X7_kind k9 S).1).toInt64)) * 31) + (((r_X7_of k9 S).1).toInt64)) * 31) + ((0 : Int32).toInt64)) * 31) * 31) + (((r_X7_upper k9 S).1).toInt64)) * 31) + (((r_X7_lower k9 S).1).toInt64)) * 31) + (((r_X7_find k9 (0 : Int32) S).1).toInt64)) * 31) + (((r_X7_find k9 (1 : Int32) S).1).toInt64)) * 31) + (((r_X7_rank k9 S).1).toInt64))), (3, .int k9), (4, .int 0)]) dX7_digest_190 [1, 2, 3, 0] (Nat.le_of_ble_eq_true rfl) rfl ?_
            refine qq_less (bc' := 250 * fu + bc + 13 + 180) (bs' := 2750 * fu + bs + 143 + 1980) (by omega) (by omega) ?_
            refine qq_less (bc' := 36 * 5 + (250 * fu + bc + 13)) (bs' := 396 * 5 + (2750 * fu + bs + 143)) (by omega) (by omega) ?_
            refine lq_X7_digest_192 k9 A S zI zH (qm_in8 zp zc1) 5 (((((((((((((((((d9 * 31) + (((r_X7_kind k9 S).1).toInt64)) * 31) + (((r_X7_of k9 S).1).toInt64)) * 31) + ((0 : Int32).toInt64)) * 31) * 31) + (((r_X7_upper k9 S).1).toInt64)) * 31) + (((r_X7_lower k9 S).1).toInt64)) * 31) + (((r_X7_find k9 (0 : Int32) S).1).toInt64)) * 31) + (((r_X7_find k9 (1 : Int32) S).1).toInt64)) * 31) + (((r_X7_rank k9 S).1).toInt64)) (0 : Int32) x8 hp8 hS8 (by decide) (250 * fu + bc + 13) (2750 * fu + bs + 143) (fun hp9 x9 hS9 fr9 => ?_)
            show qq_Go _ hp9 (250 * fu + bc + 13) (2750 * fu + bs + 143) 219 [(0, .ref 84), (1, .long ((lf_X7_digest_192 k9 5 (((((((((((((((((d9 * 31) + (((r_X7_kind k9 S).1).toInt64)) * 31) + (((r_X7_of k9 S).1).toInt64)) * 31) + ((0 : Int32).toInt64)) * 31) * 31) + (((r_X7_upper k9 S).1).toInt64)) * 31) + (((r_X7_lower k9 S).1).toInt64)) * 31) + (((r_X7_find k9 (0 : Int32) S).1).toInt64)) * 31) + (((r_X7_find k9 (1 : Int32) S).1).toInt64)) * 31) + (((r_X7_rank k9 S).1).toInt64)) (0 : Int32) S).1)), (3, .int k9)] [] _ _
            refine qq_iinc (v := k9 + 1) (loc' := [(0, .ref 84), (1, .long ((lf_X7_digest_192 k9 5 (((((((((((((((((d9 * 31) + (((r_X7_kind k9 S).1).toInt64)) * 31) + (((r_X7_of k9 S).1).toInt64)) * 31) + ((0 : Int32).toInt64)) * 31) * 31) + (((r_X7_upper k9 S).1).toInt64)) * 31) + (((r_X7_lower k9 S).1).toInt64)) * 31) + (((r_X7_find k9 (0 : Int32) S).1).toInt64)) * 31) + (((r_X7_find k9 (1 : Int32) S).1).toInt64)) * 31) + (((r_X7_rank k9 S).1).toInt64)) (0 : Int32) S).1)), (3, .int (k9 + 1))]) dX7_digest_219 2 rfl rfl [1, 2, 0] (Nat.le_of_ble_eq_true rfl) rfl ?_
            refine qq_goto (tgt := 6) dX7_digest_222 (by decide) ?_
            have ze : lf_X7_digest_6 (fu + 1) d9 k9 S = lf_X7_digest_6 fu ((lf_X7_digest_192 k9 5 (((((((((((((((((d9 * 31) + (((r_X7_kind k9 S).1).toInt64)) * 31) + (((r_X7_of k9 S).1).toInt64)) * 31) + ((0 : Int32).toInt64)) * 31) * 31) + (((r_X7_upper k9 S).1).toInt64)) * 31) + (((r_X7_lower k9 S).1).toInt64)) * 31) + (((r_X7_find k9 (0 : Int32) S).1).toInt64)) * 31) + (((r_X7_find k9 (1 : Int32) S).1).toInt64)) * 31) + (((r_X7_rank k9 S).1).toInt64)) (0 : Int32) S).1) (k9 + 1) S := by
              rw [lf_X7_digest_6, if_neg zc1, if_pos zc2, if_neg zc3, if_pos zc4]
            rw [ze] at hk
            refine qq_less (bc' := 250 * fu + bc) (bs' := 2750 * fu + bs) (by omega) (by omega) ?_
            exact lqih ((lf_X7_digest_192 k9 5 (((((((((((((((((d9 * 31) + (((r_X7_kind k9 S).1).toInt64)) * 31) + (((r_X7_of k9 S).1).toInt64)) * 31) + ((0 : Int32).toInt64)) * 31) * 31) + (((r_X7_upper k9 S).1).toInt64)) * 31) + (((r_X7_lower k9 S).1).toInt64)) * 31) + (((r_X7_find k9 (0 : Int32) S).1).toInt64)) * 31) + (((r_X7_find k9 (1 : Int32) S).1).toInt64)) * 31) + (((r_X7_rank k9 S).1).toInt64)) (0 : Int32) S).1) (k9 + 1) x9 hp9 hS9 (qm_pos zp zc1) (qm_up zc1 zh) bc bs (fun hq x8 h1 h2 => hk hq x8 h1 (fr_t (fr_t (fr_t (fr_t (fr_t (fr_t (fr_t (fr_t (fr_t fr1 fr2) fr3) fr4) fr5) fr6) fr7) fr8) fr9) h2))
          · refine qq_lload_n dX7_digest_118 rfl 1 rfl ?_
            refine qq_ldc2 (v := 31) dX7_digest_119 kl_X7_271 ?_
            refine qq_lmul dX7_digest_122 ?_
            refine qq_goto (tgt := 149) dX7_digest_123 (by decide) ?_
            refine qq_lstore_n (loc' := [(0, .ref 84), (1, .long ((((((((d9 * 31) + (((r_X7_kind k9 S).1).toInt64)) * 31) + (((r_X7_of k9 S).1).toInt64)) * 31) + ((0 : Int32).toInt64)) * 31) * 31)), (3, .int k9)]) dX7_digest_149 rfl [1, 0, 2] (Nat.le_of_ble_eq_true rfl) rfl ?_
            refine qq_lload_n dX7_digest_150 rfl 1 rfl ?_
            refine qq_ldc2 (v := 31) dX7_digest_151 kl_X7_271 ?_
            refine qq_lmul dX7_digest_154 ?_
            refine qq_aload_n dX7_digest_155 rfl 0 rfl ?_
            refine qq_iload_n dX7_digest_156 rfl 2 rfl ?_
            refine qq_iconst (v := 0) dX7_digest_157 (by decide) ?_
            refine qq_less (bc' := 250 * fu + bc + 247 + 0) (bs' := 2750 * fu + bs + 2717 + 0) (by omega) (by omega) ?_
            refine qq_callV (bc := 250 * fu + bc + 247) (bs := 2750 * fu + bs + 2717) (mc := 0) (ms := 0) (o := 84) (ci := 4) (N := 11) (T := TX7) (as := [.int k9, .int 0]) (rest := [.long (((((((((d9 * 31) + (((r_X7_kind k9 S).1).toInt64)) * 31) + (((r_X7_of k9 S).1).toInt64)) * 31) + ((0 : Int32).toInt64)) * 31) * 31) * 31)]) dX7_digest_158 hS3.2.2.1 (by decide) rfl (mo_X7_find hp3 A x3 S hS3 k9 (0 : Int32) ) rfl kl_X7_294 kn_X7_find ke_X7_find ki_X7 kc_X7_find kd_X7_find rfl (by decide) (by decide) (Nat.le_of_ble_eq_true rfl) (fun v hp10 hv _ _ => ?_) (fun E hp' zx _ _ => zx.elim)
            obtain ⟨rfl, hS10, fr10⟩ := hv
            obtain ⟨x10, ex10⟩ : ∃ x, x = (r_X7_find k9 (0 : Int32) S).2.2.2.2.2.2.2 := ⟨_, rfl⟩
            rw [← ex10] at hS10
            show qq_Go _ hp10 (250 * fu + bc + 247) (2750 * fu + bs + 2717) 161 [(0, .ref 84), (1, .long ((((((((d9 * 31) + (((r_X7_kind k9 S).1).toInt64)) * 31) + (((r_X7_of k9 S).1).toInt64)) * 31) + ((0 : Int32).toInt64)) * 31) * 31)), (3, .int k9)] [.int ((r_X7_find k9 (0 : Int32) S).1), .long (((((((((d9 * 31) + (((r_X7_kind k9 S).1).toInt64)) * 31) + (((r_X7_of k9 S).1).toInt64)) * 31) + ((0 : Int32).toInt64)) * 31) * 31) * 31)] _ _
            refine qq_i2l dX7_digest_161 ?_
            refine qq_ladd dX7_digest_162 ?_
            refine qq_ldc2 (v := 31) dX7_digest_163 kl_X7_271 ?_
            refine qq_lmul dX7_digest_166 ?_
            refine qq_aload_n dX7_digest_167 rfl 0 rfl ?_
            refine qq_iload_n dX7_digest_168 rfl 2 rfl ?_
            refine qq_iconst (v := 1) dX7_digest_169 (by decide) ?_
            refine qq_less (bc' := 250 * fu + bc + 247 + 0) (bs' := 2750 * fu + bs + 2717 + 0) (by omega) (by omega) ?_
            refine qq_callV (bc := 250 * fu + bc + 247) (bs := 2750 * fu + bs + 2717) (mc := 0) (ms := 0) (o := 84) (ci := 4) (N := 11) (T := TX7) (as := [.int k9, .int 1]) (rest := [.long (((((((((((d9 * 31) + (((r_X7_kind k9 S).1).toInt64)) * 31) + (((r_X7_of k9 S).1).toInt64)) * 31) + ((0 : Int32).toInt64)) * 31) * 31) * 31) + (((r_X7_find k9 (0 : Int32) S).1).toInt64)) * 31)]) dX7_digest_170 hS10.2.2.1 (by decide) rfl (mo_X7_find hp10 A x10 S hS10 k9 (1 : Int32) ) rfl kl_X7_294 kn_X7_find ke_X7_find ki_X7 kc_X7_find kd_X7_find rfl (by decide) (by decide) (Nat.le_of_ble_eq_true rfl) (fun v hp11 hv _ _ => ?_) (fun E hp' zx _ _ => zx.elim)
            obtain ⟨rfl, hS11, fr11⟩ := hv
            obtain ⟨x11, ex11⟩ : ∃ x, x = (r_X7_find k9 (1 : Int32) S).2.2.2.2.2.2.2 := ⟨_, rfl⟩
            rw [← ex11] at hS11
            show qq_Go _ hp11 (250 * fu + bc + 247) (2750 * fu + bs + 2717) 173 [(0, .ref 84), (1, .long ((((((((d9 * 31) + (((r_X7_kind k9 S).1).toInt64)) * 31) + (((r_X7_of k9 S).1).toInt64)) * 31) + ((0 : Int32).toInt64)) * 31) * 31)), (3, .int k9)] [.int ((r_X7_find k9 (1 : Int32) S).1), .long (((((((((((d9 * 31) + (((r_X7_kind k9 S).1).toInt64)) * 31) + (((r_X7_of k9 S).1).toInt64)) * 31) + ((0 : Int32).toInt64)) * 31) * 31) * 31) + (((r_X7_find k9 (0 : Int32) S).1).toInt64)) * 31)] _ _
            refine qq_i2l dX7_digest_173 ?_
            refine qq_ladd dX7_digest_174 ?_
            refine qq_lstore_n (loc' := [(0, .ref 84), (1, .long ((((((((((((d9 * 31) + (((r_X7_kind k9 S).1).toInt64)) * 31) + (((r_X7_of k9 S).1).toInt64)) * 31) + ((0 : Int32).toInt64)) * 31) * 31) * 31) + (((r_X7_find k9 (0 : Int32) S).1).toInt64)) * 31) + (((r_X7_find k9 (1 : Int32) S).1).toInt64))), (3, .int k9)]) dX7_digest_175 rfl [1, 0, 2] (Nat.le_of_ble_eq_true rfl) rfl ?_
            refine qq_lload_n dX7_digest_176 rfl 1 rfl ?_
            refine qq_ldc2 (v := 31) dX7_digest_177 kl_X7_271 ?_
            refine qq_lmul dX7_digest_180 ?_
            refine qq_aload_n dX7_digest_181 rfl 0 rfl ?_
            refine qq_iload_n dX7_digest_182 rfl 2 rfl ?_
            refine qq_less (bc' := 250 * fu + bc + 193 + 54) (bs' := 2750 * fu + bs + 2123 + 594) (by omega) (by omega) ?_
            refine qq_callV (bc := 250 * fu + bc + 193) (bs := 2750 * fu + bs + 2123) (mc := 54) (ms := 594) (o := 84) (ci := 4) (N := 11) (T := TX7) (as := [.int k9]) (rest := [.long (((((((((((((d9 * 31) + (((r_X7_kind k9 S).1).toInt64)) * 31) + (((r_X7_of k9 S).1).toInt64)) * 31) + ((0 : Int32).toInt64)) * 31) * 31) * 31) + (((r_X7_find k9 (0 : Int32) S).1).toInt64)) * 31) + (((r_X7_find k9 (1 : Int32) S).1).toInt64)) * 31)]) dX7_digest_183 hS11.2.2.1 (by decide) rfl (mo_X7_rank hp11 A x11 S hS11 k9 zI) rfl kl_X7_298 kn_X7_rank ke_X7_rank ki_X7 kc_X7_rank kd_X7_rank rfl (by decide) (by decide) (Nat.le_of_ble_eq_true rfl) (fun v hp12 hv _ _ => ?_) (fun E hp' zx _ _ => zx.elim)
            obtain ⟨rfl, hS12, fr12⟩ := hv
            obtain ⟨x12, ex12⟩ : ∃ x, x = (r_X7_rank k9 S).2.2.2.2.2.2.2 := ⟨_, rfl⟩
            rw [← ex12] at hS12
            show qq_Go _ hp12 (250 * fu + bc + 193) (2750 * fu + bs + 2123) 186 [(0, .ref 84), (1, .long ((((((((((((d9 * 31) + (((r_X7_kind k9 S).1).toInt64)) * 31) + (((r_X7_of k9 S).1).toInt64)) * 31) + ((0 : Int32).toInt64)) * 31) * 31) * 31) + (((r_X7_find k9 (0 : Int32) S).1).toInt64)) * 31) + (((r_X7_find k9 (1 : Int32) S).1).toInt64))), (3, .int k9)] [.int ((r_X7_rank k9 S).1), .long (((((((((((((d9 * 31) + (((r_X7_kind k9 S).1).toInt64)) * 31) + (((r_X7_of k9 S).1).toInt64)) * 31) + ((0 : Int32).toInt64)) * 31) * 31) * 31) + (((r_X7_find k9 (0 : Int32) S).1).toInt64)) * 31) + (((r_X7_find k9 (1 : Int32) S).1).toInt64)) * 31)] _ _
            refine qq_i2l dX7_digest_186 ?_
            refine qq_ladd dX7_digest_187 ?_
            refine qq_lstore_n (loc' := [(0, .ref 84), (1, .long ((((((((((((((d9 * 31) + (((r_X7_kind k9 S).1).toInt64)) * 31) + (((r_X7_of k9 S).1).toInt64)) * 31) + ((0 : Int32).toInt64)) * 31) * 31) * 31) + (((r_X7_find k9 (0 : Int32) S).1).toInt64)) * 31) + (((r_X7_find k9 (1 : Int32) S).1).toInt64)) * 31) + (((r_X7_rank k9 S).1).toInt64))), (3, .int k9)]) dX7_digest_188 rfl [1, 0, 2] (Nat.le_of_ble_eq_true rfl) rfl ?_
            refine qq_iconst (v := 0) dX7_digest_189 (by decide) ?_
            refine qq_istore (loc' := [(0, .ref 84), (1, .long ((((((((((((((d9 * 31) + (((r_X7_kind k9 S).1).toInt64)) * 31) + (((r_X7_of k9 S).1).toInt64)) * 31) + ((0 : Int32).toInt64)) * 31) * 31) * 31) + (((r_X7_find k9 (0 : Int32) S).1).toInt64)) * 31) + (((r_X7_find k9 (1 : Int32) S).1).toInt64)) * 31) + (((r_X7_rank k9 S).1).toInt64))), (3, .int k9), (4, .int 0)]) dX7_digest_190 [1, 2, 3, 0] (Nat.le_of_ble_eq_true rfl) rfl ?_
            refine qq_less (bc' := 250 * fu + bc + 13 + 180) (bs' := 2750 * fu + bs + 143 + 1980) (by omega) (by omega) ?_
            refine qq_less (bc' := 36 * 5 + (250 * fu + bc + 13)) (bs' := 396 * 5 + (2750 * fu + bs + 143)) (by omega) (by omega) ?_
            refine lq_X7_digest_192 k9 A S zI zH (qm_in8 zp zc1) 5 ((((((((((((((d9 * 31) + (((r_X7_kind k9 S).1).toInt64)) * 31) + (((r_X7_of k9 S).1).toInt64)) * 31) + ((0 : Int32).toInt64)) * 31) * 31) * 31) + (((r_X7_find k9 (0 : Int32) S).1).toInt64)) * 31) + (((r_X7_find k9 (1 : Int32) S).1).toInt64)) * 31) + (((r_X7_rank k9 S).1).toInt64)) (0 : Int32) x12 hp12 hS12 (by decide) (250 * fu + bc + 13) (2750 * fu + bs + 143) (fun hp13 x13 hS13 fr13 => ?_)
            show qq_Go _ hp13 (250 * fu + bc + 13) (2750 * fu + bs + 143) 219 [(0, .ref 84), (1, .long ((lf_X7_digest_192 k9 5 ((((((((((((((d9 * 31) + (((r_X7_kind k9 S).1).toInt64)) * 31) + (((r_X7_of k9 S).1).toInt64)) * 31) + ((0 : Int32).toInt64)) * 31) * 31) * 31) + (((r_X7_find k9 (0 : Int32) S).1).toInt64)) * 31) + (((r_X7_find k9 (1 : Int32) S).1).toInt64)) * 31) + (((r_X7_rank k9 S).1).toInt64)) (0 : Int32) S).1)), (3, .int k9)] [] _ _
            refine qq_iinc (v := k9 + 1) (loc' := [(0, .ref 84), (1, .long ((lf_X7_digest_192 k9 5 ((((((((((((((d9 * 31) + (((r_X7_kind k9 S).1).toInt64)) * 31) + (((r_X7_of k9 S).1).toInt64)) * 31) + ((0 : Int32).toInt64)) * 31) * 31) * 31) + (((r_X7_find k9 (0 : Int32) S).1).toInt64)) * 31) + (((r_X7_find k9 (1 : Int32) S).1).toInt64)) * 31) + (((r_X7_rank k9 S).1).toInt64)) (0 : Int32) S).1)), (3, .int (k9 + 1))]) dX7_digest_219 2 rfl rfl [1, 2, 0] (Nat.le_of_ble_eq_true rfl) rfl ?_
            refine qq_goto (tgt := 6) dX7_digest_222 (by decide) ?_
            have ze : lf_X7_digest_6 (fu + 1) d9 k9 S = lf_X7_digest_6 fu ((lf_X7_digest_192 k9 5 ((((((((((((((d9 * 31) + (((r_X7_kind k9 S).1).toInt64)) * 31) + (((r_X7_of k9 S).1).toInt64)) * 31) + ((0 : Int32).toInt64)) * 31) * 31) * 31) + (((r_X7_find k9 (0 : Int32) S).1).toInt64)) * 31) + (((r_X7_find k9 (1 : Int32) S).1).toInt64)) * 31) + (((r_X7_rank k9 S).1).toInt64)) (0 : Int32) S).1) (k9 + 1) S := by
              rw [lf_X7_digest_6, if_neg zc1, if_pos zc2, if_neg zc3, if_neg zc4]
            rw [ze] at hk
            refine qq_less (bc' := 250 * fu + bc) (bs' := 2750 * fu + bs) (by omega) (by omega) ?_
            exact lqih ((lf_X7_digest_192 k9 5 ((((((((((((((d9 * 31) + (((r_X7_kind k9 S).1).toInt64)) * 31) + (((r_X7_of k9 S).1).toInt64)) * 31) + ((0 : Int32).toInt64)) * 31) * 31) * 31) + (((r_X7_find k9 (0 : Int32) S).1).toInt64)) * 31) + (((r_X7_find k9 (1 : Int32) S).1).toInt64)) * 31) + (((r_X7_rank k9 S).1).toInt64)) (0 : Int32) S).1) (k9 + 1) x13 hp13 hS13 (qm_pos zp zc1) (qm_up zc1 zh) bc bs (fun hq x8 h1 h2 => hk hq x8 h1 (fr_t (fr_t (fr_t (fr_t (fr_t (fr_t (fr_t fr1 fr2) fr3) fr10) fr11) fr12) fr13) h2))
        · refine qq_aload_n dX7_digest_67 rfl 0 rfl ?_
          refine qq_iload_n dX7_digest_68 rfl 2 rfl ?_
          refine qq_less (bc' := 250 * fu + bc + 247 + 0) (bs' := 2750 * fu + bs + 2717 + 0) (by omega) (by omega) ?_
          refine qq_callV (bc := 250 * fu + bc + 247) (bs := 2750 * fu + bs + 2717) (mc := 0) (ms := 0) (o := 84) (ci := 4) (N := 11) (T := TX7) (as := [.int k9]) (rest := []) dX7_digest_69 hS3.2.2.1 (by decide) rfl (mt_X7_isNought hp3 A (th x3 S) hS3 k9 (qm_in8 zp zc1)) rfl kl_X7_109 kn_X7_isNought ke_X7_isNought ki_X7 kc_X7_isNought kd_X7_isNought rfl (by decide) (by decide) (Nat.le_of_ble_eq_true rfl) (fun v hp' hv _ _ => ?_) (fun E hp' zx _ _ => zx.elim)
          obtain ⟨rfl, rfl⟩ := hv
          show qq_Go _ hp3 (250 * fu + bc + 247) (2750 * fu + bs + 2717) 72 [(0, .ref 84), (1, .long ((((((d9 * 31) + (((r_X7_kind k9 S).1).toInt64)) * 31) + (((r_X7_of k9 S).1).toInt64)) * 31) + ((0 : Int32).toInt64))), (3, .int k9)] [.int (r_X7_isNought k9 S)] _ _
          refine qq_if_eq (tgt := 84) dX7_digest_72 (by decide) (fun zc5 => ?_) (fun zc5 => ?_)
          · refine qq_lload_n dX7_digest_84 rfl 1 rfl ?_
            refine qq_ldc2 (v := 31) dX7_digest_85 kl_X7_271 ?_
            refine qq_lmul dX7_digest_88 ?_
            refine qq_aload_n dX7_digest_89 rfl 0 rfl ?_
            refine qq_iload_n dX7_digest_90 rfl 2 rfl ?_
            refine qq_less (bc' := 250 * fu + bc + 242 + 5) (bs' := 2750 * fu + bs + 2662 + 55) (by omega) (by omega) ?_
            refine qq_callV (bc := 250 * fu + bc + 242) (bs := 2750 * fu + bs + 2662) (mc := 5) (ms := 55) (o := 84) (ci := 4) (N := 11) (T := TX7) (as := [.int k9]) (rest := [.long (((((((d9 * 31) + (((r_X7_kind k9 S).1).toInt64)) * 31) + (((r_X7_of k9 S).1).toInt64)) * 31) + ((0 : Int32).toInt64)) * 31)]) dX7_digest_91 hS3.2.2.1 (by decide) rfl (mo_X7_height hp3 A x3 S hS3 k9 zI zH) rfl kl_X7_282 kn_X7_height ke_X7_height ki_X7 kc_X7_height kd_X7_height rfl (by decide) (by decide) (Nat.le_of_ble_eq_true rfl) (fun v hp14 hv _ _ => ?_) (fun E hp' zx _ _ => zx.elim)
            obtain ⟨rfl, hS14, fr14⟩ := hv
            obtain ⟨x14, ex14⟩ : ∃ x, x = (r_X7_height k9 S).2.2.2.2.2.2.2 := ⟨_, rfl⟩
            rw [← ex14] at hS14
            show qq_Go _ hp14 (250 * fu + bc + 242) (2750 * fu + bs + 2662) 94 [(0, .ref 84), (1, .long ((((((d9 * 31) + (((r_X7_kind k9 S).1).toInt64)) * 31) + (((r_X7_of k9 S).1).toInt64)) * 31) + ((0 : Int32).toInt64))), (3, .int k9)] [.int ((r_X7_height k9 S).1), .long (((((((d9 * 31) + (((r_X7_kind k9 S).1).toInt64)) * 31) + (((r_X7_of k9 S).1).toInt64)) * 31) + ((0 : Int32).toInt64)) * 31)] _ _
            refine qq_i2l dX7_digest_94 ?_
            refine qq_ladd dX7_digest_95 ?_
            refine qq_ldc2 (v := 31) dX7_digest_96 kl_X7_271 ?_
            refine qq_lmul dX7_digest_99 ?_
            refine qq_aload_n dX7_digest_100 rfl 0 rfl ?_
            refine qq_iload_n dX7_digest_101 rfl 2 rfl ?_
            refine qq_less (bc' := 250 * fu + bc + 237 + 5) (bs' := 2750 * fu + bs + 2607 + 55) (by omega) (by omega) ?_
            refine qq_callV (bc := 250 * fu + bc + 237) (bs := 2750 * fu + bs + 2607) (mc := 5) (ms := 55) (o := 84) (ci := 4) (N := 11) (T := TX7) (as := [.int k9]) (rest := [.long (((((((((d9 * 31) + (((r_X7_kind k9 S).1).toInt64)) * 31) + (((r_X7_of k9 S).1).toInt64)) * 31) + ((0 : Int32).toInt64)) * 31) + (((r_X7_height k9 S).1).toInt64)) * 31)]) dX7_digest_102 hS14.2.2.1 (by decide) rfl (mo_X7_digits hp14 A x14 S hS14 k9 zI zH) rfl kl_X7_285 kn_X7_digits ke_X7_digits ki_X7 kc_X7_digits kd_X7_digits rfl (by decide) (by decide) (Nat.le_of_ble_eq_true rfl) (fun v hp15 hv _ _ => ?_) (fun E hp' zx _ _ => zx.elim)
            obtain ⟨rfl, hS15, fr15⟩ := hv
            obtain ⟨x15, ex15⟩ : ∃ x, x = (r_X7_digits k9 S).2.2.2.2.2.2.2 := ⟨_, rfl⟩
            rw [← ex15] at hS15
            show qq_Go _ hp15 (250 * fu + bc + 237) (2750 * fu + bs + 2607) 105 [(0, .ref 84), (1, .long ((((((d9 * 31) + (((r_X7_kind k9 S).1).toInt64)) * 31) + (((r_X7_of k9 S).1).toInt64)) * 31) + ((0 : Int32).toInt64))), (3, .int k9)] [.int ((r_X7_digits k9 S).1), .long (((((((((d9 * 31) + (((r_X7_kind k9 S).1).toInt64)) * 31) + (((r_X7_of k9 S).1).toInt64)) * 31) + ((0 : Int32).toInt64)) * 31) + (((r_X7_height k9 S).1).toInt64)) * 31)] _ _
            refine qq_i2l dX7_digest_105 ?_
            refine qq_ladd dX7_digest_106 ?_
            refine qq_lstore_n (loc' := [(0, .ref 84), (1, .long ((((((((((d9 * 31) + (((r_X7_kind k9 S).1).toInt64)) * 31) + (((r_X7_of k9 S).1).toInt64)) * 31) + ((0 : Int32).toInt64)) * 31) + (((r_X7_height k9 S).1).toInt64)) * 31) + (((r_X7_digits k9 S).1).toInt64))), (3, .int k9)]) dX7_digest_107 rfl [1, 0, 2] (Nat.le_of_ble_eq_true rfl) rfl ?_
            refine qq_aload_n dX7_digest_108 rfl 0 rfl ?_
            refine mx_get hS15 dX7_digest_109 4 (by decide) rfl kl_X7_28 ?_
            refine qq_iload_n dX7_digest_112 rfl 2 rfl ?_
            refine qq_iald dX7_digest_113 hS15.2.2.2.1 (qm_in8 zp zc1) ?_
            show qq_Go _ hp15 (250 * fu + bc + 237) (2750 * fu + bs + 2607) 114 [(0, .ref 84), (1, .long ((((((((((d9 * 31) + (((r_X7_kind k9 S).1).toInt64)) * 31) + (((r_X7_of k9 S).1).toInt64)) * 31) + ((0 : Int32).toInt64)) * 31) + (((r_X7_height k9 S).1).toInt64)) * 31) + (((r_X7_digits k9 S).1).toInt64))), (3, .int k9)] [.int (S.1 k9.toNatClampNeg)] _ _
            refine qq_iconst (v := 1) dX7_digest_114 (by decide) ?_
            refine qq_icmp_le (tgt := 126) dX7_digest_115 (by decide) (fun zc6 => ?_) (fun zc6 => ?_)
            · refine qq_lload_n dX7_digest_126 rfl 1 rfl ?_
              refine qq_ldc2 (v := 31) dX7_digest_127 kl_X7_271 ?_
              refine qq_lmul dX7_digest_130 ?_
              refine qq_aload_n dX7_digest_131 rfl 0 rfl ?_
              refine qq_iload_n dX7_digest_132 rfl 2 rfl ?_
              refine qq_less (bc' := 250 * fu + bc + 237 + 0) (bs' := 2750 * fu + bs + 2607 + 0) (by omega) (by omega) ?_
              refine qq_callV (bc := 250 * fu + bc + 237) (bs := 2750 * fu + bs + 2607) (mc := 0) (ms := 0) (o := 84) (ci := 4) (N := 11) (T := TX7) (as := [.int k9]) (rest := [.long (((((((((((d9 * 31) + (((r_X7_kind k9 S).1).toInt64)) * 31) + (((r_X7_of k9 S).1).toInt64)) * 31) + ((0 : Int32).toInt64)) * 31) + (((r_X7_height k9 S).1).toInt64)) * 31) + (((r_X7_digits k9 S).1).toInt64)) * 31)]) dX7_digest_133 hS15.2.2.1 (by decide) rfl (mo_X7_upper hp15 A x15 S hS15 k9 ) rfl kl_X7_288 kn_X7_upper ke_X7_upper ki_X7 kc_X7_upper kd_X7_upper rfl (by decide) (by decide) (Nat.le_of_ble_eq_true rfl) (fun v hp16 hv _ _ => ?_) (fun E hp' zx _ _ => zx.elim)
              obtain ⟨rfl, hS16, fr16⟩ := hv
              obtain ⟨x16, ex16⟩ : ∃ x, x = (r_X7_upper k9 S).2.2.2.2.2.2.2 := ⟨_, rfl⟩
              rw [← ex16] at hS16
              show qq_Go _ hp16 (250 * fu + bc + 237) (2750 * fu + bs + 2607) 136 [(0, .ref 84), (1, .long ((((((((((d9 * 31) + (((r_X7_kind k9 S).1).toInt64)) * 31) + (((r_X7_of k9 S).1).toInt64)) * 31) + ((0 : Int32).toInt64)) * 31) + (((r_X7_height k9 S).1).toInt64)) * 31) + (((r_X7_digits k9 S).1).toInt64))), (3, .int k9)] [.int ((r_X7_upper k9 S).1), .long (((((((((((d9 * 31) + (((r_X7_kind k9 S).1).toInt64)) * 31) + (((r_X7_of k9 S).1).toInt64)) * 31) + ((0 : Int32).toInt64)) * 31) + (((r_X7_height k9 S).1).toInt64)) * 31) + (((r_X7_digits k9 S).1).toInt64)) * 31)] _ _
              refine qq_i2l dX7_digest_136 ?_
              refine qq_ladd dX7_digest_137 ?_
              refine qq_ldc2 (v := 31) dX7_digest_138 kl_X7_271 ?_
              refine qq_lmul dX7_digest_141 ?_
              refine qq_aload_n dX7_digest_142 rfl 0 rfl ?_
              refine qq_iload_n dX7_digest_143 rfl 2 rfl ?_
              refine qq_less (bc' := 250 * fu + bc + 237 + 0) (bs' := 2750 * fu + bs + 2607 + 0) (by omega) (by omega) ?_
              refine qq_callV (bc := 250 * fu + bc + 237) (bs := 2750 * fu + bs + 2607) (mc := 0) (ms := 0) (o := 84) (ci := 4) (N := 11) (T := TX7) (as := [.int k9]) (rest := [.long (((((((((((((d9 * 31) + (((r_X7_kind k9 S).1).toInt64)) * 31) + (((r_X7_of k9 S).1).toInt64)) * 31) + ((0 : Int32).toInt64)) * 31) + (((r_X7_height k9 S).1).toInt64)) * 31) + (((r_X7_digits k9 S).1).toInt64)) * 31) + (((r_X7_upper k9 S).1).toInt64)) * 31)]) dX7_digest_144 hS16.2.2.1 (by decide) rfl (mo_X7_lower hp16 A x16 S hS16 k9 ) rfl kl_X7_291 kn_X7_lower ke_X7_lower ki_X7 kc_X7_lower kd_X7_lower rfl (by decide) (by decide) (Nat.le_of_ble_eq_true rfl) (fun v hp17 hv _ _ => ?_) (fun E hp' zx _ _ => zx.elim)
              obtain ⟨rfl, hS17, fr17⟩ := hv
              obtain ⟨x17, ex17⟩ : ∃ x, x = (r_X7_lower k9 S).2.2.2.2.2.2.2 := ⟨_, rfl⟩
              rw [← ex17] at hS17
              show qq_Go _ hp17 (250 * fu + bc + 237) (2750 * fu + bs + 2607) 147 [(0, .ref 84), (1, .long ((((((((((d9 * 31) + (((r_X7_kind k9 S).1).toInt64)) * 31) + (((r_X7_of k9 S).1).toInt64)) * 31) + ((0 : Int32).toInt64)) * 31) + (((r_X7_height k9 S).1).toInt64)) * 31) + (((r_X7_digits k9 S).1).toInt64))), (3, .int k9)] [.int ((r_X7_lower k9 S).1), .long (((((((((((((d9 * 31) + (((r_X7_kind k9 S).1).toInt64)) * 31) + (((r_X7_of k9 S).1).toInt64)) * 31) + ((0 : Int32).toInt64)) * 31) + (((r_X7_height k9 S).1).toInt64)) * 31) + (((r_X7_digits k9 S).1).toInt64)) * 31) + (((r_X7_upper k9 S).1).toInt64)) * 31)] _ _
              refine qq_i2l dX7_digest_147 ?_
              refine qq_ladd dX7_digest_148 ?_
              refine qq_lstore_n (loc' := [(0, .ref 84), (1, .long ((((((((((((((d9 * 31) + (((r_X7_kind k9 S).1).toInt64)) * 31) + (((r_X7_of k9 S).1).toInt64)) * 31) + ((0 : Int32).toInt64)) * 31) + (((r_X7_height k9 S).1).toInt64)) * 31) + (((r_X7_digits k9 S).1).toInt64)) * 31) + (((r_X7_upper k9 S).1).toInt64)) * 31) + (((r_X7_lower k9 S).1).toInt64))), (3, .int k9)]) dX7_digest_149 rfl [1, 0, 2] (Nat.le_of_ble_eq_true rfl) rfl ?_
              refine qq_lload_n dX7_digest_150 rfl 1 rfl ?_
              refine qq_ldc2 (v := 31) dX7_digest_151 kl_X7_271 ?_
              refine qq_lmul dX7_digest_154 ?_
              refine qq_aload_n dX7_digest_155 rfl 0 rfl ?_
              refine qq_iload_n dX7_digest_156 rfl 2 rfl ?_
              refine qq_iconst (v := 0) dX7_digest_157 (by decide) ?_
              refine qq_less (bc' := 250 * fu + bc + 237 + 0) (bs' := 2750 * fu + bs + 2607 + 0) (by omega) (by omega) ?_
              refine qq_callV (bc := 250 * fu + bc + 237) (bs := 2750 * fu + bs + 2607) (mc := 0) (ms := 0) (o := 84) (ci := 4) (N := 11) (T := TX7) (as := [.int k9, .int 0]) (rest := [.long (((((((((((((((d9 * 31) + (((r_X7_kind k9 S).1).toInt64)) * 31) + (((r_X7_of k9 S).1).toInt64)) * 31) + ((0 : Int32).toInt64)) * 31) + (((r_X7_height k9 S).1).toInt64)) * 31) + (((r_X7_digits k9 S).1).toInt64)) * 31) + (((r_X7_upper k9 S).1).toInt64)) * 31) + (((r_X7_lower k9 S).1).toInt64)) * 31)]) dX7_digest_158 hS17.2.2.1 (by decide) rfl (mo_X7_find hp17 A x17 S hS17 k9 (0 : Int32) ) rfl kl_X7_294 kn_X7_find ke_X7_find ki_X7 kc_X7_find kd_X7_find rfl (by decide) (by decide) (Nat.le_of_ble_eq_true rfl) (fun v hp18 hv _ _ => ?_) (fun E hp' zx _ _ => zx.elim)
              obtain ⟨rfl, hS18, fr18⟩ := hv
              obtain ⟨x18, ex18⟩ : ∃ x, x = (r_X7_find k9 (0 : Int32) S).2.2.2.2.2.2.2 := ⟨_, rfl⟩
              rw [← ex18] at hS18
              show qq_Go _ hp18 (250 * fu + bc + 237) (2750 * fu + bs + 2607) 161 [(0, .ref 84), (1, .long ((((((((((((((d9 * 31) + (((r_X7_kind k9 S).1).toInt64)) * 31) + (((r_X7_of k9 S).1).toInt64)) * 31) + ((0 : Int32).toInt64)) * 31) + (((r_X7_height k9 S).1).toInt64)) * 31) + (((r_X7_digits k9 S).1).toInt64)) * 31) + (((r_X7_upper k9 S).1).toInt64)) * 31) + (((r_X7_lower k9 S).1).toInt64))), (3, .int k9)] [.int ((r_X7_find k9 (0 : Int32) S).1), .long (((((((((((((((d9 * 31) + (((r_X7_kind k9 S).1).toInt64)) * 31) + (((r_X7_of k9 S).1).toInt64)) * 31) + ((0 : Int32).toInt64)) * 31) + (((r_X7_height k9 S).1).toInt64)) * 31) + (((r_X7_digits k9 S).1).toInt64)) * 31) + (((r_X7_upper k9 S).1).toInt64)) * 31) + (((r_X7_lower k9 S).1).toInt64)) * 31)] _ _
              refine qq_i2l dX7_digest_161 ?_
              refine qq_ladd dX7_digest_162 ?_
              refine qq_ldc2 (v := 31) dX7_digest_163 kl_X7_271 ?_
              refine qq_lmul dX7_digest_166 ?_
              refine qq_aload_n dX7_digest_167 rfl 0 rfl ?_
              refine qq_iload_n dX7_digest_168 rfl 2 rfl ?_
              refine qq_iconst (v := 1) dX7_digest_169 (by decide) ?_
              refine qq_less (bc' := 250 * fu + bc + 237 + 0) (bs' := 2750 * fu + bs + 2607 + 0) (by omega) (by omega) ?_
              refine qq_callV (bc := 250 * fu + bc + 237) (bs := 2750 * fu + bs + 2607) (mc := 0) (ms := 0) (o := 84) (ci := 4) (N := 11) (T := TX7) (as := [.int k9, .int 1]) (rest := [.long (((((((((((((((((d9 * 31) + (((r_X7_kind k9 S).1).toInt64)) * 31) + (((r_X7_of k9 S).1).toInt64)) * 31) + ((0 : Int32).toInt64)) * 31) + (((r_X7_height k9 S).1).toInt64)) * 31) + (((r_X7_digits k9 S).1).toInt64)) * 31) + (((r_X7_upper k9 S).1).toInt64)) * 31) + (((r_X7_lower k9 S).1).toInt64)) * 31) + (((r_X7_find k9 (0 : Int32) S).1).toInt64)) * 31)]) dX7_digest_170 hS18.2.2.1 (by decide) rfl (mo_X7_find hp18 A x18 S hS18 k9 (1 : Int32) ) rfl kl_X7_294 kn_X7_find ke_X7_find ki_X7 kc_X7_find kd_X7_find rfl (by decide) (by decide) (Nat.le_of_ble_eq_true rfl) (fun v hp19 hv _ _ => ?_) (fun E hp' zx _ _ => zx.elim)
              obtain ⟨rfl, hS19, fr19⟩ := hv
              obtain ⟨x19, ex19⟩ : ∃ x, x = (r_X7_find k9 (1 : Int32) S).2.2.2.2.2.2.2 := ⟨_, rfl⟩
              rw [← ex19] at hS19
              show qq_Go _ hp19 (250 * fu + bc + 237) (2750 * fu + bs + 2607) 173 [(0, .ref 84), (1, .long ((((((((((((((d9 * 31) + (((r_X7_kind k9 S).1).toInt64)) * 31) + (((r_X7_of k9 S).1).toInt64)) * 31) + ((0 : Int32).toInt64)) * 31) + (((r_X7_height k9 S).1).toInt64)) * 31) + (((r_X7_digits k9 S).1).toInt64)) * 31) + (((r_X7_upper k9 S).1).toInt64)) * 31) + (((r_X7_lower k9 S).1).toInt64))), (3, .int k9)] [.int ((r_X7_find k9 (1 : Int32) S).1), .long (((((((((((((((((d9 * 31) + (((r_X7_kind k9 S).1).toInt64)) * 31) + (((r_X7_of k9 S).1).toInt64)) * 31) + ((0 : Int32).toInt64)) * 31) + (((r_X7_height k9 S).1).toInt64)) * 31) + (((r_X7_digits k9 S).1).toInt64)) * 31) + (((r_X7_upper k9 S).1).toInt64)) * 31) + (((r_X7_lower k9 S).1).toInt64)) * 31) + (((r_X7_find k9 (0 : Int32) S).1).toInt64)) * 31)] _ _
              refine qq_i2l dX7_digest_173 ?_
              refine qq_ladd dX7_digest_174 ?_
              refine qq_lstore_n (loc' := [(0, .ref 84), (1, .long ((((((((((((((((((d9 * 31) + (((r_X7_kind k9 S).1).toInt64)) * 31) + (((r_X7_of k9 S).1).toInt64)) * 31) + ((0 : Int32).toInt64)) * 31) + (((r_X7_height k9 S).1).toInt64)) * 31) + (((r_X7_digits k9 S).1).toInt64)) * 31) + (((r_X7_upper k9 S).1).toInt64)) * 31) + (((r_X7_lower k9 S).1).toInt64)) * 31) + (((r_X7_find k9 (0 : Int32) S).1).toInt64)) * 31) + (((r_X7_find k9 (1 : Int32) S).1).toInt64))), (3, .int k9)]) dX7_digest_175 rfl [1, 0, 2] (Nat.le_of_ble_eq_true rfl) rfl ?_
              refine qq_lload_n dX7_digest_176 rfl 1 rfl ?_
              refine qq_ldc2 (v := 31) dX7_digest_177 kl_X7_271 ?_
              refine qq_lmul dX7_digest_180 ?_
              refine qq_aload_n dX7_digest_181 rfl 0 rfl ?_
              refine qq_iload_n dX7_digest_182 rfl 2 rfl ?_
              refine qq_less (bc' := 250 * fu + bc + 183 + 54) (bs' := 2750 * fu + bs + 2013 + 594) (by omega) (by omega) ?_
              refine qq_callV (bc := 250 * fu + bc + 183) (bs := 2750 * fu + bs + 2013) (mc := 54) (ms := 594) (o := 84) (ci := 4) (N := 11) (T := TX7) (as := [.int k9]) (rest := [.long (((((((((((((((((((d9 * 31) + (((r_X7_kind k9 S).1).toInt64)) * 31) + (((r_X7_of k9 S).1).toInt64)) * 31) + ((0 : Int32).toInt64)) * 31) + (((r_X7_height k9 S).1).toInt64)) * 31) + (((r_X7_digits k9 S).1).toInt64)) * 31) + (((r_X7_upper k9 S).1).toInt64)) * 31) + (((r_X7_lower k9 S).1).toInt64)) * 31) + (((r_X7_find k9 (0 : Int32) S).1).toInt64)) * 31) + (((r_X7_find k9 (1 : Int32) S).1).toInt64)) * 31)]) dX7_digest_183 hS19.2.2.1 (by decide) rfl (mo_X7_rank hp19 A x19 S hS19 k9 zI) rfl kl_X7_298 kn_X7_rank ke_X7_rank ki_X7 kc_X7_rank kd_X7_rank rfl (by decide) (by decide) (Nat.le_of_ble_eq_true rfl) (fun v hp20 hv _ _ => ?_) (fun E hp' zx _ _ => zx.elim)
              obtain ⟨rfl, hS20, fr20⟩ := hv
              obtain ⟨x20, ex20⟩ : ∃ x, x = (r_X7_rank k9 S).2.2.2.2.2.2.2 := ⟨_, rfl⟩
              rw [← ex20] at hS20
              show qq_Go _ hp20 (250 * fu + bc + 183) (2750 * fu + bs + 2013) 186 [(0, .ref 84), (1, .long ((((((((((((((((((d9 * 31) + (((r_X7_kind k9 S).1).toInt64)) * 31) + (((r_X7_of k9 S).1).toInt64)) * 31) + ((0 : Int32).toInt64)) * 31) + (((r_X7_height k9 S).1).toInt64)) * 31) + (((r_X7_digits k9 S).1).toInt64)) * 31) + (((r_X7_upper k9 S).1).toInt64)) * 31) + (((r_X7_lower k9 S).1).toInt64)) * 31) + (((r_X7_find k9 (0 : Int32) S).1).toInt64)) * 31) + (((r_X7_find k9 (1 : Int32) S).1).toInt64))), (3, .int k9)] [.int ((r_X7_rank k9 S).1), .long (((((((((((((((((((d9 * 31) + (((r_X7_kind k9 S).1).toInt64)) * 31) + (((r_X7_of k9 S).1).toInt64)) * 31) + ((0 : Int32).toInt64)) * 31) + (((r_X7_height k9 S).1).toInt64)) * 31) + (((r_X7_digits k9 S).1).toInt64)) * 31) + (((r_X7_upper k9 S).1).toInt64)) * 31) + (((r_X7_lower k9 S).1).toInt64)) * 31) + (((r_X7_find k9 (0 : Int32) S).1).toInt64)) * 31) + (((r_X7_find k9 (1 : Int32) S).1).toInt64)) * 31)] _ _
              refine qq_i2l dX7_digest_186 ?_
              refine qq_ladd dX7_digest_187 ?_
              refine qq_lstore_n (loc' := [(0, .ref 84), (1, .long ((((((((((((((((((((d9 * 31) + (((r_X7_kind k9 S).1).toInt64)) * 31) + (((r_X7_of k9 S).1).toInt64)) * 31) + ((0 : Int32).toInt64)) * 31) + (((r_X7_height k9 S).1).toInt64)) * 31) + (((r_X7_digits k9 S).1).toInt64)) * 31) + (((r_X7_upper k9 S).1).toInt64)) * 31) + (((r_X7_lower k9 S).1).toInt64)) * 31) + (((r_X7_find k9 (0 : Int32) S).1).toInt64)) * 31) + (((r_X7_find k9 (1 : Int32) S).1).toInt64)) * 31) + (((r_X7_rank k9 S).1).toInt64))), (3, .int k9)]) dX7_digest_188 rfl [1, 0, 2] (Nat.le_of_ble_eq_true rfl) rfl ?_
              refine qq_iconst (v := 0) dX7_digest_189 (by decide) ?_
              refine qq_istore (loc' := [(0, .ref 84), (1, .long ((((((((((((((((((((d9 * 31) + (((r_X7_kind k9 S).1).toInt64)) * 31) + (((r_X7_of k9 S).1).toInt64)) * 31) + ((0 : Int32).toInt64)) * 31) + (((r_X7_height k9 S).1).toInt64)) * 31) + (((r_X7_digits k9 S).1).toInt64)) * 31) + (((r_X7_upper k9 S).1).toInt64)) * 31) + (((r_X7_lower k9 S).1).toInt64)) * 31) + (((r_X7_find k9 (0 : Int32) S).1).toInt64)) * 31) + (((r_X7_find k9 (1 : Int32) S).1).toInt64)) * 31) + (((r_X7_rank k9 S).1).toInt64))), (3, .int k9), (4, .int 0)]) dX7_digest_190 [1, 2, 3, 0] (Nat.le_of_ble_eq_true rfl) rfl ?_
              refine qq_less (bc' := 250 * fu + bc + 3 + 180) (bs' := 2750 * fu + bs + 33 + 1980) (by omega) (by omega) ?_
              refine qq_less (bc' := 36 * 5 + (250 * fu + bc + 3)) (bs' := 396 * 5 + (2750 * fu + bs + 33)) (by omega) (by omega) ?_
              refine lq_X7_digest_192 k9 A S zI zH (qm_in8 zp zc1) 5 ((((((((((((((((((((d9 * 31) + (((r_X7_kind k9 S).1).toInt64)) * 31) + (((r_X7_of k9 S).1).toInt64)) * 31) + ((0 : Int32).toInt64)) * 31) + (((r_X7_height k9 S).1).toInt64)) * 31) + (((r_X7_digits k9 S).1).toInt64)) * 31) + (((r_X7_upper k9 S).1).toInt64)) * 31) + (((r_X7_lower k9 S).1).toInt64)) * 31) + (((r_X7_find k9 (0 : Int32) S).1).toInt64)) * 31) + (((r_X7_find k9 (1 : Int32) S).1).toInt64)) * 31) + (((r_X7_rank k9 S).1).toInt64)) (0 : Int32) x20 hp20 hS20 (by decide) (250 * fu + bc + 3) (2750 * fu + bs + 33) (fun hp21 x21 hS21 fr21 => ?_)
              show qq_Go _ hp21 (250 * fu + bc + 3) (2750 * fu + bs + 33) 219 [(0, .ref 84), (1, .long ((lf_X7_digest_192 k9 5 ((((((((((((((((((((d9 * 31) + (((r_X7_kind k9 S).1).toInt64)) * 31) + (((r_X7_of k9 S).1).toInt64)) * 31) + ((0 : Int32).toInt64)) * 31) + (((r_X7_height k9 S).1).toInt64)) * 31) + (((r_X7_digits k9 S).1).toInt64)) * 31) + (((r_X7_upper k9 S).1).toInt64)) * 31) + (((r_X7_lower k9 S).1).toInt64)) * 31) + (((r_X7_find k9 (0 : Int32) S).1).toInt64)) * 31) + (((r_X7_find k9 (1 : Int32) S).1).toInt64)) * 31) + (((r_X7_rank k9 S).1).toInt64)) (0 : Int32) S).1)), (3, .int k9)] [] _ _
              refine qq_iinc (v := k9 + 1) (loc' := [(0, .ref 84), (1, .long ((lf_X7_digest_192 k9 5 ((((((((((((((((((((d9 * 31) + (((r_X7_kind k9 S).1).toInt64)) * 31) + (((r_X7_of k9 S).1).toInt64)) * 31) + ((0 : Int32).toInt64)) * 31) + (((r_X7_height k9 S).1).toInt64)) * 31) + (((r_X7_digits k9 S).1).toInt64)) * 31) + (((r_X7_upper k9 S).1).toInt64)) * 31) + (((r_X7_lower k9 S).1).toInt64)) * 31) + (((r_X7_find k9 (0 : Int32) S).1).toInt64)) * 31) + (((r_X7_find k9 (1 : Int32) S).1).toInt64)) * 31) + (((r_X7_rank k9 S).1).toInt64)) (0 : Int32) S).1)), (3, .int (k9 + 1))]) dX7_digest_219 2 rfl rfl [1, 2, 0] (Nat.le_of_ble_eq_true rfl) rfl ?_
              refine qq_goto (tgt := 6) dX7_digest_222 (by decide) ?_
              have ze : lf_X7_digest_6 (fu + 1) d9 k9 S = lf_X7_digest_6 fu ((lf_X7_digest_192 k9 5 ((((((((((((((((((((d9 * 31) + (((r_X7_kind k9 S).1).toInt64)) * 31) + (((r_X7_of k9 S).1).toInt64)) * 31) + ((0 : Int32).toInt64)) * 31) + (((r_X7_height k9 S).1).toInt64)) * 31) + (((r_X7_digits k9 S).1).toInt64)) * 31) + (((r_X7_upper k9 S).1).toInt64)) * 31) + (((r_X7_lower k9 S).1).toInt64)) * 31) + (((r_X7_find k9 (0 : Int32) S).1).toInt64)) * 31) + (((r_X7_find k9 (1 : Int32) S).1).toInt64)) * 31) + (((r_X7_rank k9 S).1).toInt64)) (0 : Int32) S).1) (k9 + 1) S := by
                rw [lf_X7_digest_6, if_neg zc1, if_pos zc2, if_pos zc3, if_pos zc5, if_pos zc6]
              rw [ze] at hk
              refine qq_less (bc' := 250 * fu + bc) (bs' := 2750 * fu + bs) (by omega) (by omega) ?_
              exact lqih ((lf_X7_digest_192 k9 5 ((((((((((((((((((((d9 * 31) + (((r_X7_kind k9 S).1).toInt64)) * 31) + (((r_X7_of k9 S).1).toInt64)) * 31) + ((0 : Int32).toInt64)) * 31) + (((r_X7_height k9 S).1).toInt64)) * 31) + (((r_X7_digits k9 S).1).toInt64)) * 31) + (((r_X7_upper k9 S).1).toInt64)) * 31) + (((r_X7_lower k9 S).1).toInt64)) * 31) + (((r_X7_find k9 (0 : Int32) S).1).toInt64)) * 31) + (((r_X7_find k9 (1 : Int32) S).1).toInt64)) * 31) + (((r_X7_rank k9 S).1).toInt64)) (0 : Int32) S).1) (k9 + 1) x21 hp21 hS21 (qm_pos zp zc1) (qm_up zc1 zh) bc bs (fun hq x8 h1 h2 => hk hq x8 h1 (fr_t (fr_t (fr_t (fr_t (fr_t (fr_t (fr_t (fr_t (fr_t (fr_t (fr_t fr1 fr2) fr3) fr14) fr15) fr16) fr17) fr18) fr19) fr20) fr21) h2))
            · refine qq_lload_n dX7_digest_118 rfl 1 rfl ?_
              refine qq_ldc2 (v := 31) dX7_digest_119 kl_X7_271 ?_
              refine qq_lmul dX7_digest_122 ?_
              refine qq_goto (tgt := 149) dX7_digest_123 (by decide) ?_
              refine qq_lstore_n (loc' := [(0, .ref 84), (1, .long (((((((((((d9 * 31) + (((r_X7_kind k9 S).1).toInt64)) * 31) + (((r_X7_of k9 S).1).toInt64)) * 31) + ((0 : Int32).toInt64)) * 31) + (((r_X7_height k9 S).1).toInt64)) * 31) + (((r_X7_digits k9 S).1).toInt64)) * 31)), (3, .int k9)]) dX7_digest_149 rfl [1, 0, 2] (Nat.le_of_ble_eq_true rfl) rfl ?_
              refine qq_lload_n dX7_digest_150 rfl 1 rfl ?_
              refine qq_ldc2 (v := 31) dX7_digest_151 kl_X7_271 ?_
              refine qq_lmul dX7_digest_154 ?_
              refine qq_aload_n dX7_digest_155 rfl 0 rfl ?_
              refine qq_iload_n dX7_digest_156 rfl 2 rfl ?_
              refine qq_iconst (v := 0) dX7_digest_157 (by decide) ?_
              refine qq_less (bc' := 250 * fu + bc + 237 + 0) (bs' := 2750 * fu + bs + 2607 + 0) (by omega) (by omega) ?_
              refine qq_callV (bc := 250 * fu + bc + 237) (bs := 2750 * fu + bs + 2607) (mc := 0) (ms := 0) (o := 84) (ci := 4) (N := 11) (T := TX7) (as := [.int k9, .int 0]) (rest := [.long ((((((((((((d9 * 31) + (((r_X7_kind k9 S).1).toInt64)) * 31) + (((r_X7_of k9 S).1).toInt64)) * 31) + ((0 : Int32).toInt64)) * 31) + (((r_X7_height k9 S).1).toInt64)) * 31) + (((r_X7_digits k9 S).1).toInt64)) * 31) * 31)]) dX7_digest_158 hS15.2.2.1 (by decide) rfl (mo_X7_find hp15 A x15 S hS15 k9 (0 : Int32) ) rfl kl_X7_294 kn_X7_find ke_X7_find ki_X7 kc_X7_find kd_X7_find rfl (by decide) (by decide) (Nat.le_of_ble_eq_true rfl) (fun v hp22 hv _ _ => ?_) (fun E hp' zx _ _ => zx.elim)
              obtain ⟨rfl, hS22, fr22⟩ := hv
              obtain ⟨x22, ex22⟩ : ∃ x, x = (r_X7_find k9 (0 : Int32) S).2.2.2.2.2.2.2 := ⟨_, rfl⟩
              rw [← ex22] at hS22
              show qq_Go _ hp22 (250 * fu + bc + 237) (2750 * fu + bs + 2607) 161 [(0, .ref 84), (1, .long (((((((((((d9 * 31) + (((r_X7_kind k9 S).1).toInt64)) * 31) + (((r_X7_of k9 S).1).toInt64)) * 31) + ((0 : Int32).toInt64)) * 31) + (((r_X7_height k9 S).1).toInt64)) * 31) + (((r_X7_digits k9 S).1).toInt64)) * 31)), (3, .int k9)] [.int ((r_X7_find k9 (0 : Int32) S).1), .long ((((((((((((d9 * 31) + (((r_X7_kind k9 S).1).toInt64)) * 31) + (((r_X7_of k9 S).1).toInt64)) * 31) + ((0 : Int32).toInt64)) * 31) + (((r_X7_height k9 S).1).toInt64)) * 31) + (((r_X7_digits k9 S).1).toInt64)) * 31) * 31)] _ _
              refine qq_i2l dX7_digest_161 ?_
              refine qq_ladd dX7_digest_162 ?_
              refine qq_ldc2 (v := 31) dX7_digest_163 kl_X7_271 ?_
              refine qq_lmul dX7_digest_166 ?_
              refine qq_aload_n dX7_digest_167 rfl 0 rfl ?_
              refine qq_iload_n dX7_digest_168 rfl 2 rfl ?_
              refine qq_iconst (v := 1) dX7_digest_169 (by decide) ?_
              refine qq_less (bc' := 250 * fu + bc + 237 + 0) (bs' := 2750 * fu + bs + 2607 + 0) (by omega) (by omega) ?_
              refine qq_callV (bc := 250 * fu + bc + 237) (bs := 2750 * fu + bs + 2607) (mc := 0) (ms := 0) (o := 84) (ci := 4) (N := 11) (T := TX7) (as := [.int k9, .int 1]) (rest := [.long ((((((((((((((d9 * 31) + (((r_X7_kind k9 S).1).toInt64)) * 31) + (((r_X7_of k9 S).1).toInt64)) * 31) + ((0 : Int32).toInt64)) * 31) + (((r_X7_height k9 S).1).toInt64)) * 31) + (((r_X7_digits k9 S).1).toInt64)) * 31) * 31) + (((r_X7_find k9 (0 : Int32) S).1).toInt64)) * 31)]) dX7_digest_170 hS22.2.2.1 (by decide) rfl (mo_X7_find hp22 A x22 S hS22 k9 (1 : Int32) ) rfl kl_X7_294 kn_X7_find ke_X7_find ki_X7 kc_X7_find kd_X7_find rfl (by decide) (by decide) (Nat.le_of_ble_eq_true rfl) (fun v hp23 hv _ _ => ?_) (fun E hp' zx _ _ => zx.elim)
              obtain ⟨rfl, hS23, fr23⟩ := hv
              obtain ⟨x23, ex23⟩ : ∃ x, x = (r_X7_find k9 (1 : Int32) S).2.2.2.2.2.2.2 := ⟨_, rfl⟩
              rw [← ex23] at hS23
              show qq_Go _ hp23 (250 * fu + bc + 237) (2750 * fu + bs + 2607) 173 [(0, .ref 84), (1, .long (((((((((((d9 * 31) + (((r_X7_kind k9 S).1).toInt64)) * 31) + (((r_X7_of k9 S).1).toInt64)) * 31) + ((0 : Int32).toInt64)) * 31) + (((r_X7_height k9 S).1).toInt64)) * 31) + (((r_X7_digits k9 S).1).toInt64)) * 31)), (3, .int k9)] [.int ((r_X7_find k9 (1 : Int32) S).1), .long ((((((((((((((d9 * 31) + (((r_X7_kind k9 S).1).toInt64)) * 31) + (((r_X7_of k9 S).1).toInt64)) * 31) + ((0 : Int32).toInt64)) * 31) + (((r_X7_height k9 S).1).toInt64)) * 31) + (((r_X7_digits k9 S).1).toInt64)) * 31) * 31) + (((r_X7_find k9 (0 : Int32) S).1).toInt64)) * 31)] _ _
              refine qq_i2l dX7_digest_173 ?_
              refine qq_ladd dX7_digest_174 ?_
              refine qq_lstore_n (loc' := [(0, .ref 84), (1, .long (((((((((((((((d9 * 31) + (((r_X7_kind k9 S).1).toInt64)) * 31) + (((r_X7_of k9 S).1).toInt64)) * 31) + ((0 : Int32).toInt64)) * 31) + (((r_X7_height k9 S).1).toInt64)) * 31) + (((r_X7_digits k9 S).1).toInt64)) * 31) * 31) + (((r_X7_find k9 (0 : Int32) S).1).toInt64)) * 31) + (((r_X7_find k9 (1 : Int32) S).1).toInt64))), (3, .int k9)]) dX7_digest_175 rfl [1, 0, 2] (Nat.le_of_ble_eq_true rfl) rfl ?_
              refine qq_lload_n dX7_digest_176 rfl 1 rfl ?_
              refine qq_ldc2 (v := 31) dX7_digest_177 kl_X7_271 ?_
              refine qq_lmul dX7_digest_180 ?_
              refine qq_aload_n dX7_digest_181 rfl 0 rfl ?_
              refine qq_iload_n dX7_digest_182 rfl 2 rfl ?_
              refine qq_less (bc' := 250 * fu + bc + 183 + 54) (bs' := 2750 * fu + bs + 2013 + 594) (by omega) (by omega) ?_
              refine qq_callV (bc := 250 * fu + bc + 183) (bs := 2750 * fu + bs + 2013) (mc := 54) (ms := 594) (o := 84) (ci := 4) (N := 11) (T := TX7) (as := [.int k9]) (rest := [.long ((((((((((((((((d9 * 31) + (((r_X7_kind k9 S).1).toInt64)) * 31) + (((r_X7_of k9 S).1).toInt64)) * 31) + ((0 : Int32).toInt64)) * 31) + (((r_X7_height k9 S).1).toInt64)) * 31) + (((r_X7_digits k9 S).1).toInt64)) * 31) * 31) + (((r_X7_find k9 (0 : Int32) S).1).toInt64)) * 31) + (((r_X7_find k9 (1 : Int32) S).1).toInt64)) * 31)]) dX7_digest_183 hS23.2.2.1 (by decide) rfl (mo_X7_rank hp23 A x23 S hS23 k9 zI) rfl kl_X7_298 kn_X7_rank ke_X7_rank ki_X7 kc_X7_rank kd_X7_rank rfl (by decide) (by decide) (Nat.le_of_ble_eq_true rfl) (fun v hp24 hv _ _ => ?_) (fun E hp' zx _ _ => zx.elim)
              obtain ⟨rfl, hS24, fr24⟩ := hv
              obtain ⟨x24, ex24⟩ : ∃ x, x = (r_X7_rank k9 S).2.2.2.2.2.2.2 := ⟨_, rfl⟩
              rw [← ex24] at hS24
              show qq_Go _ hp24 (250 * fu + bc + 183) (2750 * fu + bs + 2013) 186 [(0, .ref 84), (1, .long (((((((((((((((d9 * 31) + (((r_X7_kind k9 S).1).toInt64)) * 31) + (((r_X7_of k9 S).1).toInt64)) * 31) + ((0 : Int32).toInt64)) * 31) + (((r_X7_height k9 S).1).toInt64)) * 31) + (((r_X7_digits k9 S).1).toInt64)) * 31) * 31) + (((r_X7_find k9 (0 : Int32) S).1).toInt64)) * 31) + (((r_X7_find k9 (1 : Int32) S).1).toInt64))), (3, .int k9)] [.int ((r_X7_rank k9 S).1), .long ((((((((((((((((d9 * 31) + (((r_X7_kind k9 S).1).toInt64)) * 31) + (((r_X7_of k9 S).1).toInt64)) * 31) + ((0 : Int32).toInt64)) * 31) + (((r_X7_height k9 S).1).toInt64)) * 31) + (((r_X7_digits k9 S).1).toInt64)) * 31) * 31) + (((r_X7_find k9 (0 : Int32) S).1).toInt64)) * 31) + (((r_X7_find k9 (1 : Int32) S).1).toInt64)) * 31)] _ _
              refine qq_i2l dX7_digest_186 ?_
              refine qq_ladd dX7_digest_187 ?_
              refine qq_lstore_n (loc' := [(0, .ref 84), (1, .long (((((((((((((((((d9 * 31) + (((r_X7_kind k9 S).1).toInt64)) * 31) + (((r_X7_of k9 S).1).toInt64)) * 31) + ((0 : Int32).toInt64)) * 31) + (((r_X7_height k9 S).1).toInt64)) * 31) + (((r_X7_digits k9 S).1).toInt64)) * 31) * 31) + (((r_X7_find k9 (0 : Int32) S).1).toInt64)) * 31) + (((r_X7_find k9 (1 : Int32) S).1).toInt64)) * 31) + (((r_X7_rank k9 S).1).toInt64))), (3, .int k9)]) dX7_digest_188 rfl [1, 0, 2] (Nat.le_of_ble_eq_true rfl) rfl ?_
              refine qq_iconst (v := 0) dX7_digest_189 (by decide) ?_
              refine qq_istore (loc' := [(0, .ref 84), (1, .long (((((((((((((((((d9 * 31) + (((r_X7_kind k9 S).1).toInt64)) * 31) + (((r_X7_of k9 S).1).toInt64)) * 31) + ((0 : Int32).toInt64)) * 31) + (((r_X7_height k9 S).1).toInt64)) * 31) + (((r_X7_digits k9 S).1).toInt64)) * 31) * 31) + (((r_X7_find k9 (0 : Int32) S).1).toInt64)) * 31) + (((r_X7_find k9 (1 : Int32) S).1).toInt64)) * 31) + (((r_X7_rank k9 S).1).toInt64))), (3, .int k9), (4, .int 0)]) dX7_digest_190 [1, 2, 3, 0] (Nat.le_of_ble_eq_true rfl) rfl ?_
              refine qq_less (bc' := 250 * fu + bc + 3 + 180) (bs' := 2750 * fu + bs + 33 + 1980) (by omega) (by omega) ?_
              refine qq_less (bc' := 36 * 5 + (250 * fu + bc + 3)) (bs' := 396 * 5 + (2750 * fu + bs + 33)) (by omega) (by omega) ?_
              refine lq_X7_digest_192 k9 A S zI zH (qm_in8 zp zc1) 5 (((((((((((((((((d9 * 31) + (((r_X7_kind k9 S).1).toInt64)) * 31) + (((r_X7_of k9 S).1).toInt64)) * 31) + ((0 : Int32).toInt64)) * 31) + (((r_X7_height k9 S).1).toInt64)) * 31) + (((r_X7_digits k9 S).1).toInt64)) * 31) * 31) + (((r_X7_find k9 (0 : Int32) S).1).toInt64)) * 31) + (((r_X7_find k9 (1 : Int32) S).1).toInt64)) * 31) + (((r_X7_rank k9 S).1).toInt64)) (0 : Int32) x24 hp24 hS24 (by decide) (250 * fu + bc + 3) (2750 * fu + bs + 33) (fun hp25 x25 hS25 fr25 => ?_)
              show qq_Go _ hp25 (250 * fu + bc + 3) (2750 * fu + bs + 33) 219 [(0, .ref 84), (1, .long ((lf_X7_digest_192 k9 5 (((((((((((((((((d9 * 31) + (((r_X7_kind k9 S).1).toInt64)) * 31) + (((r_X7_of k9 S).1).toInt64)) * 31) + ((0 : Int32).toInt64)) * 31) + (((r_X7_height k9 S).1).toInt64)) * 31) + (((r_X7_digits k9 S).1).toInt64)) * 31) * 31) + (((r_X7_find k9 (0 : Int32) S).1).toInt64)) * 31) + (((r_X7_find k9 (1 : Int32) S).1).toInt64)) * 31) + (((r_X7_rank k9 S).1).toInt64)) (0 : Int32) S).1)), (3, .int k9)] [] _ _
              refine qq_iinc (v := k9 + 1) (loc' := [(0, .ref 84), (1, .long ((lf_X7_digest_192 k9 5 (((((((((((((((((d9 * 31) + (((r_X7_kind k9 S).1).toInt64)) * 31) + (((r_X7_of k9 S).1).toInt64)) * 31) + ((0 : Int32).toInt64)) * 31) + (((r_X7_height k9 S).1).toInt64)) * 31) + (((r_X7_digits k9 S).1).toInt64)) * 31) * 31) + (((r_X7_find k9 (0 : Int32) S).1).toInt64)) * 31) + (((r_X7_find k9 (1 : Int32) S).1).toInt64)) * 31) + (((r_X7_rank k9 S).1).toInt64)) (0 : Int32) S).1)), (3, .int (k9 + 1))]) dX7_digest_219 2 rfl rfl [1, 2, 0] (Nat.le_of_ble_eq_true rfl) rfl ?_
              refine qq_goto (tgt := 6) dX7_digest_222 (by decide) ?_
              have ze : lf_X7_digest_6 (fu + 1) d9 k9 S = lf_X7_digest_6 fu ((lf_X7_digest_192 k9 5 (((((((((((((((((d9 * 31) + (((r_X7_kind k9 S).1).toInt64)) * 31) + (((r_X7_of k9 S).1).toInt64)) * 31) + ((0 : Int32).toInt64)) * 31) + (((r_X7_height k9 S).1).toInt64)) * 31) + (((r_X7_digits k9 S).1).toInt64)) * 31) * 31) + (((r_X7_find k9 (0 : Int32) S).1).toInt64)) * 31) + (((r_X7_find k9 (1 : Int32) S).1).toInt64)) * 31) + (((r_X7_rank k9 S).1).toInt64)) (0 : Int32) S).1) (k9 + 1) S := by
                rw [lf_X7_digest_6, if_neg zc1, if_pos zc2, if_pos zc3, if_pos zc5, if_neg zc6]
              rw [ze] at hk
              refine qq_less (bc' := 250 * fu + bc) (bs' := 2750 * fu + bs) (by omega) (by omega) ?_
              exact lqih ((lf_X7_digest_192 k9 5 (((((((((((((((((d9 * 31) + (((r_X7_kind k9 S).1).toInt64)) * 31) + (((r_X7_of k9 S).1).toInt64)) * 31) + ((0 : Int32).toInt64)) * 31) + (((r_X7_height k9 S).1).toInt64)) * 31) + (((r_X7_digits k9 S).1).toInt64)) * 31) * 31) + (((r_X7_find k9 (0 : Int32) S).1).toInt64)) * 31) + (((r_X7_find k9 (1 : Int32) S).1).toInt64)) * 31) + (((r_X7_rank k9 S).1).toInt64)) (0 : Int32) S).1) (k9 + 1) x25 hp25 hS25 (qm_pos zp zc1) (qm_up zc1 zh) bc bs (fun hq x8 h1 h2 => hk hq x8 h1 (fr_t (fr_t (fr_t (fr_t (fr_t (fr_t (fr_t (fr_t (fr_t fr1 fr2) fr3) fr14) fr15) fr22) fr23) fr24) fr25) h2))
          · refine qq_lload_n dX7_digest_75 rfl 1 rfl ?_
            refine qq_ldc2 (v := 31) dX7_digest_76 kl_X7_271 ?_
            refine qq_lmul dX7_digest_79 ?_
            refine qq_lstore_n (loc' := [(0, .ref 84), (1, .long (((((((d9 * 31) + (((r_X7_kind k9 S).1).toInt64)) * 31) + (((r_X7_of k9 S).1).toInt64)) * 31) + ((0 : Int32).toInt64)) * 31)), (3, .int k9)]) dX7_digest_80 rfl [1, 0, 2] (Nat.le_of_ble_eq_true rfl) rfl ?_
            refine qq_goto (tgt := 108) dX7_digest_81 (by decide) ?_
            refine qq_aload_n dX7_digest_108 rfl 0 rfl ?_
            refine mx_get hS3 dX7_digest_109 4 (by decide) rfl kl_X7_28 ?_
            refine qq_iload_n dX7_digest_112 rfl 2 rfl ?_
            refine qq_iald dX7_digest_113 hS3.2.2.2.1 (qm_in8 zp zc1) ?_
            show qq_Go _ hp3 (250 * fu + bc + 247) (2750 * fu + bs + 2717) 114 [(0, .ref 84), (1, .long (((((((d9 * 31) + (((r_X7_kind k9 S).1).toInt64)) * 31) + (((r_X7_of k9 S).1).toInt64)) * 31) + ((0 : Int32).toInt64)) * 31)), (3, .int k9)] [.int (S.1 k9.toNatClampNeg)] _ _
            refine qq_iconst (v := 1) dX7_digest_114 (by decide) ?_
            refine qq_icmp_le (tgt := 126) dX7_digest_115 (by decide) (fun zc7 => ?_) (fun zc7 => ?_)
            · refine qq_lload_n dX7_digest_126 rfl 1 rfl ?_
              refine qq_ldc2 (v := 31) dX7_digest_127 kl_X7_271 ?_
              refine qq_lmul dX7_digest_130 ?_
              refine qq_aload_n dX7_digest_131 rfl 0 rfl ?_
              refine qq_iload_n dX7_digest_132 rfl 2 rfl ?_
              refine qq_less (bc' := 250 * fu + bc + 247 + 0) (bs' := 2750 * fu + bs + 2717 + 0) (by omega) (by omega) ?_
              refine qq_callV (bc := 250 * fu + bc + 247) (bs := 2750 * fu + bs + 2717) (mc := 0) (ms := 0) (o := 84) (ci := 4) (N := 11) (T := TX7) (as := [.int k9]) (rest := [.long ((((((((d9 * 31) + (((r_X7_kind k9 S).1).toInt64)) * 31) + (((r_X7_of k9 S).1).toInt64)) * 31) + ((0 : Int32).toInt64)) * 31) * 31)]) dX7_digest_133 hS3.2.2.1 (by decide) rfl (mo_X7_upper hp3 A x3 S hS3 k9 ) rfl kl_X7_288 kn_X7_upper ke_X7_upper ki_X7 kc_X7_upper kd_X7_upper rfl (by decide) (by decide) (Nat.le_of_ble_eq_true rfl) (fun v hp26 hv _ _ => ?_) (fun E hp' zx _ _ => zx.elim)
              obtain ⟨rfl, hS26, fr26⟩ := hv
              obtain ⟨x26, ex26⟩ : ∃ x, x = (r_X7_upper k9 S).2.2.2.2.2.2.2 := ⟨_, rfl⟩
              rw [← ex26] at hS26
              show qq_Go _ hp26 (250 * fu + bc + 247) (2750 * fu + bs + 2717) 136 [(0, .ref 84), (1, .long (((((((d9 * 31) + (((r_X7_kind k9 S).1).toInt64)) * 31) + (((r_X7_of k9 S).1).toInt64)) * 31) + ((0 : Int32).toInt64)) * 31)), (3, .int k9)] [.int ((r_X7_upper k9 S).1), .long ((((((((d9 * 31) + (((r_X7_kind k9 S).1).toInt64)) * 31) + (((r_X7_of k9 S).1).toInt64)) * 31) + ((0 : Int32).toInt64)) * 31) * 31)] _ _
              refine qq_i2l dX7_digest_136 ?_
              refine qq_ladd dX7_digest_137 ?_
              refine qq_ldc2 (v := 31) dX7_digest_138 kl_X7_271 ?_
              refine qq_lmul dX7_digest_141 ?_
              refine qq_aload_n dX7_digest_142 rfl 0 rfl ?_
              refine qq_iload_n dX7_digest_143 rfl 2 rfl ?_
              refine qq_less (bc' := 250 * fu + bc + 247 + 0) (bs' := 2750 * fu + bs + 2717 + 0) (by omega) (by omega) ?_
              refine qq_callV (bc := 250 * fu + bc + 247) (bs := 2750 * fu + bs + 2717) (mc := 0) (ms := 0) (o := 84) (ci := 4) (N := 11) (T := TX7) (as := [.int k9]) (rest := [.long ((((((((((d9 * 31) + (((r_X7_kind k9 S).1).toInt64)) * 31) + (((r_X7_of k9 S).1).toInt64)) * 31) + ((0 : Int32).toInt64)) * 31) * 31) + (((r_X7_upper k9 S).1).toInt64)) * 31)]) dX7_digest_144 hS26.2.2.1 (by decide) rfl (mo_X7_lower hp26 A x26 S hS26 k9 ) rfl kl_X7_291 kn_X7_lower ke_X7_lower ki_X7 kc_X7_lower kd_X7_lower rfl (by decide) (by decide) (Nat.le_of_ble_eq_true rfl) (fun v hp27 hv _ _ => ?_) (fun E hp' zx _ _ => zx.elim)
              obtain ⟨rfl, hS27, fr27⟩ := hv
              obtain ⟨x27, ex27⟩ : ∃ x, x = (r_X7_lower k9 S).2.2.2.2.2.2.2 := ⟨_, rfl⟩
              rw [← ex27] at hS27
              show qq_Go _ hp27 (250 * fu + bc + 247) (2750 * fu + bs + 2717) 147 [(0, .ref 84), (1, .long (((((((d9 * 31) + (((r_X7_kind k9 S).1).toInt64)) * 31) + (((r_X7_of k9 S).1).toInt64)) * 31) + ((0 : Int32).toInt64)) * 31)), (3, .int k9)] [.int ((r_X7_lower k9 S).1), .long ((((((((((d9 * 31) + (((r_X7_kind k9 S).1).toInt64)) * 31) + (((r_X7_of k9 S).1).toInt64)) * 31) + ((0 : Int32).toInt64)) * 31) * 31) + (((r_X7_upper k9 S).1).toInt64)) * 31)] _ _
              refine qq_i2l dX7_digest_147 ?_
              refine qq_ladd dX7_digest_148 ?_
              refine qq_lstore_n (loc' := [(0, .ref 84), (1, .long (((((((((((d9 * 31) + (((r_X7_kind k9 S).1).toInt64)) * 31) + (((r_X7_of k9 S).1).toInt64)) * 31) + ((0 : Int32).toInt64)) * 31) * 31) + (((r_X7_upper k9 S).1).toInt64)) * 31) + (((r_X7_lower k9 S).1).toInt64))), (3, .int k9)]) dX7_digest_149 rfl [1, 0, 2] (Nat.le_of_ble_eq_true rfl) rfl ?_
              refine qq_lload_n dX7_digest_150 rfl 1 rfl ?_
              refine qq_ldc2 (v := 31) dX7_digest_151 kl_X7_271 ?_
              refine qq_lmul dX7_digest_154 ?_
              refine qq_aload_n dX7_digest_155 rfl 0 rfl ?_
              refine qq_iload_n dX7_digest_156 rfl 2 rfl ?_
              refine qq_iconst (v := 0) dX7_digest_157 (by decide) ?_
              refine qq_less (bc' := 250 * fu + bc + 247 + 0) (bs' := 2750 * fu + bs + 2717 + 0) (by omega) (by omega) ?_
              refine qq_callV (bc := 250 * fu + bc + 247) (bs := 2750 * fu + bs + 2717) (mc := 0) (ms := 0) (o := 84) (ci := 4) (N := 11) (T := TX7) (as := [.int k9, .int 0]) (rest := [.long ((((((((((((d9 * 31) + (((r_X7_kind k9 S).1).toInt64)) * 31) + (((r_X7_of k9 S).1).toInt64)) * 31) + ((0 : Int32).toInt64)) * 31) * 31) + (((r_X7_upper k9 S).1).toInt64)) * 31) + (((r_X7_lower k9 S).1).toInt64)) * 31)]) dX7_digest_158 hS27.2.2.1 (by decide) rfl (mo_X7_find hp27 A x27 S hS27 k9 (0 : Int32) ) rfl kl_X7_294 kn_X7_find ke_X7_find ki_X7 kc_X7_find kd_X7_find rfl (by decide) (by decide) (Nat.le_of_ble_eq_true rfl) (fun v hp28 hv _ _ => ?_) (fun E hp' zx _ _ => zx.elim)
              obtain ⟨rfl, hS28, fr28⟩ := hv
              obtain ⟨x28, ex28⟩ : ∃ x, x = (r_X7_find k9 (0 : Int32) S).2.2.2.2.2.2.2 := ⟨_, rfl⟩
              rw [← ex28] at hS28
              show qq_Go _ hp28 (250 * fu + bc + 247) (2750 * fu + bs + 2717) 161 [(0, .ref 84), (1, .long (((((((((((d9 * 31) + (((r_X7_kind k9 S).1).toInt64)) * 31) + (((r_X7_of k9 S).1).toInt64)) * 31) + ((0 : Int32).toInt64)) * 31) * 31) + (((r_X7_upper k9 S).1).toInt64)) * 31) + (((r_X7_lower k9 S).1).toInt64))), (3, .int k9)] [.int ((r_X7_find k9 (0 : Int32) S).1), .long ((((((((((((d9 * 31) + (((r_X7_kind k9 S).1).toInt64)) * 31) + (((r_X7_of k9 S).1).toInt64)) * 31) + ((0 : Int32).toInt64)) * 31) * 31) + (((r_X7_upper k9 S).1).toInt64)) * 31) + (((r_X7_lower k9 S).1).toInt64)) * 31)] _ _
              refine qq_i2l dX7_digest_161 ?_
              refine qq_ladd dX7_digest_162 ?_
              refine qq_ldc2 (v := 31) dX7_digest_163 kl_X7_271 ?_
              refine qq_lmul dX7_digest_166 ?_
              refine qq_aload_n dX7_digest_167 rfl 0 rfl ?_
              refine qq_iload_n dX7_digest_168 rfl 2 rfl ?_
              refine qq_iconst (v := 1) dX7_digest_169 (by decide) ?_
              refine qq_less (bc' := 250 * fu + bc + 247 + 0) (bs' := 2750 * fu + bs + 2717 + 0) (by omega) (by omega) ?_
              refine qq_callV (bc := 250 * fu + bc + 247) (bs := 2750 * fu + bs + 2717) (mc := 0) (ms := 0) (o := 84) (ci := 4) (N := 11) (T := TX7) (as := [.int k9, .int 1]) (rest := [.long ((((((((((((((d9 * 31) + (((r_X7_kind k9 S).1).toInt64)) * 31) + (((r_X7_of k9 S).1).toInt64)) * 31) + ((0 : Int32).toInt64)) * 31) * 31) + (((r_X7_upper k9 S).1).toInt64)) * 31) + (((r_X7_lower k9 S).1).toInt64)) * 31) + (((r_X7_find k9 (0 : Int32) S).1).toInt64)) * 31)]) dX7_digest_170 hS28.2.2.1 (by decide) rfl (mo_X7_find hp28 A x28 S hS28 k9 (1 : Int32) ) rfl kl_X7_294 kn_X7_find ke_X7_find ki_X7 kc_X7_find kd_X7_find rfl (by decide) (by decide) (Nat.le_of_ble_eq_true rfl) (fun v hp29 hv _ _ => ?_) (fun E hp' zx _ _ => zx.elim)
              obtain ⟨rfl, hS29, fr29⟩ := hv
              obtain ⟨x29, ex29⟩ : ∃ x, x = (r_X7_find k9 (1 : Int32) S).2.2.2.2.2.2.2 := ⟨_, rfl⟩
              rw [← ex29] at hS29
              show qq_Go _ hp29 (250 * fu + bc + 247) (2750 * fu + bs + 2717) 173 [(0, .ref 84), (1, .long (((((((((((d9 * 31) + (((r_X7_kind k9 S).1).toInt64)) * 31) + (((r_X7_of k9 S).1).toInt64)) * 31) + ((0 : Int32).toInt64)) * 31) * 31) + (((r_X7_upper k9 S).1).toInt64)) * 31) + (((r_X7_lower k9 S).1).toInt64))), (3, .int k9)] [.int ((r_X7_find k9 (1 : Int32) S).1), .long ((((((((((((((d9 * 31) + (((r_X7_kind k9 S).1).toInt64)) * 31) + (((r_X7_of k9 S).1).toInt64)) * 31) + ((0 : Int32).toInt64)) * 31) * 31) + (((r_X7_upper k9 S).1).toInt64)) * 31) + (((r_X7_lower k9 S).1).toInt64)) * 31) + (((r_X7_find k9 (0 : Int32) S).1).toInt64)) * 31)] _ _
              refine qq_i2l dX7_digest_173 ?_
              refine qq_ladd dX7_digest_174 ?_
              refine qq_lstore_n (loc' := [(0, .ref 84), (1, .long (((((((((((((((d9 * 31) + (((r_X7_kind k9 S).1).toInt64)) * 31) + (((r_X7_of k9 S).1).toInt64)) * 31) + ((0 : Int32).toInt64)) * 31) * 31) + (((r_X7_upper k9 S).1).toInt64)) * 31) + (((r_X7_lower k9 S).1).toInt64)) * 31) + (((r_X7_find k9 (0 : Int32) S).1).toInt64)) * 31) + (((r_X7_find k9 (1 : Int32) S).1).toInt64))), (3, .int k9)]) dX7_digest_175 rfl [1, 0, 2] (Nat.le_of_ble_eq_true rfl) rfl ?_
              refine qq_lload_n dX7_digest_176 rfl 1 rfl ?_
              refine qq_ldc2 (v := 31) dX7_digest_177 kl_X7_271 ?_
              refine qq_lmul dX7_digest_180 ?_
              refine qq_aload_n dX7_digest_181 rfl 0 rfl ?_
              refine qq_iload_n dX7_digest_182 rfl 2 rfl ?_
              refine qq_less (bc' := 250 * fu + bc + 193 + 54) (bs' := 2750 * fu + bs + 2123 + 594) (by omega) (by omega) ?_
              refine qq_callV (bc := 250 * fu + bc + 193) (bs := 2750 * fu + bs + 2123) (mc := 54) (ms := 594) (o := 84) (ci := 4) (N := 11) (T := TX7) (as := [.int k9]) (rest := [.long ((((((((((((((((d9 * 31) + (((r_X7_kind k9 S).1).toInt64)) * 31) + (((r_X7_of k9 S).1).toInt64)) * 31) + ((0 : Int32).toInt64)) * 31) * 31) + (((r_X7_upper k9 S).1).toInt64)) * 31) + (((r_X7_lower k9 S).1).toInt64)) * 31) + (((r_X7_find k9 (0 : Int32) S).1).toInt64)) * 31) + (((r_X7_find k9 (1 : Int32) S).1).toInt64)) * 31)]) dX7_digest_183 hS29.2.2.1 (by decide) rfl (mo_X7_rank hp29 A x29 S hS29 k9 zI) rfl kl_X7_298 kn_X7_rank ke_X7_rank ki_X7 kc_X7_rank kd_X7_rank rfl (by decide) (by decide) (Nat.le_of_ble_eq_true rfl) (fun v hp30 hv _ _ => ?_) (fun E hp' zx _ _ => zx.elim)
              obtain ⟨rfl, hS30, fr30⟩ := hv
              obtain ⟨x30, ex30⟩ : ∃ x, x = (r_X7_rank k9 S).2.2.2.2.2.2.2 := ⟨_, rfl⟩
              rw [← ex30] at hS30
              show qq_Go _ hp30 (250 * fu + bc + 193) (2750 * fu + bs + 2123) 186 [(0, .ref 84), (1, .long (((((((((((((((d9 * 31) + (((r_X7_kind k9 S).1).toInt64)) * 31) + (((r_X7_of k9 S).1).toInt64)) * 31) + ((0 : Int32).toInt64)) * 31) * 31) + (((r_X7_upper k9 S).1).toInt64)) * 31) + (((r_X7_lower k9 S).1).toInt64)) * 31) + (((r_X7_find k9 (0 : Int32) S).1).toInt64)) * 31) + (((r_X7_find k9 (1 : Int32) S).1).toInt64))), (3, .int k9)] [.int ((r_X7_rank k9 S).1), .long ((((((((((((((((d9 * 31) + (((r_X7_kind k9 S).1).toInt64)) * 31) + (((r_X7_of k9 S).1).toInt64)) * 31) + ((0 : Int32).toInt64)) * 31) * 31) + (((r_X7_upper k9 S).1).toInt64)) * 31) + (((r_X7_lower k9 S).1).toInt64)) * 31) + (((r_X7_find k9 (0 : Int32) S).1).toInt64)) * 31) + (((r_X7_find k9 (1 : Int32) S).1).toInt64)) * 31)] _ _
              refine qq_i2l dX7_digest_186 ?_
              refine qq_ladd dX7_digest_187 ?_
              refine qq_lstore_n (loc' := [(0, .ref 84), (1, .long (((((((((((((((((d9 * 31) + (((r_X7_kind k9 S).1).toInt64)) * 31) + (((r_X7_of k9 S).1).toInt64)) * 31) + ((0 : Int32).toInt64)) * 31) * 31) + (((r_X7_upper k9 S).1).toInt64)) * 31) + (((r_X7_lower k9 S).1).toInt64)) * 31) + (((r_X7_find k9 (0 : Int32) S).1).toInt64)) * 31) + (((r_X7_find k9 (1 : Int32) S).1).toInt64)) * 31) + (((r_X7_rank k9 S).1).toInt64))), (3, .int k9)]) dX7_digest_188 rfl [1, 0, 2] (Nat.le_of_ble_eq_true rfl) rfl ?_
              refine qq_iconst (v := 0) dX7_digest_189 (by decide) ?_
              refine qq_istore (loc' := [(0, .ref 84), (1, .long (((((((((((((((((d9 * 31) + (((r_X7_kind k9 S).1).toInt64)) * 31) + (((r_X7_of k9 S).1).toInt64)) * 31) + ((0 : Int32).toInt64)) * 31) * 31) + (((r_X7_upper k9 S).1).toInt64)) * 31) + (((r_X7_lower k9 S).1).toInt64)) * 31) + (((r_X7_find k9 (0 : Int32) S).1).toInt64)) * 31) + (((r_X7_find k9 (1 : Int32) S).1).toInt64)) * 31) + (((r_X7_rank k9 S).1).toInt64))), (3, .int k9), (4, .int 0)]) dX7_digest_190 [1, 2, 3, 0] (Nat.le_of_ble_eq_true rfl) rfl ?_
              refine qq_less (bc' := 250 * fu + bc + 13 + 180) (bs' := 2750 * fu + bs + 143 + 1980) (by omega) (by omega) ?_
              refine qq_less (bc' := 36 * 5 + (250 * fu + bc + 13)) (bs' := 396 * 5 + (2750 * fu + bs + 143)) (by omega) (by omega) ?_
              refine lq_X7_digest_192 k9 A S zI zH (qm_in8 zp zc1) 5 (((((((((((((((((d9 * 31) + (((r_X7_kind k9 S).1).toInt64)) * 31) + (((r_X7_of k9 S).1).toInt64)) * 31) + ((0 : Int32).toInt64)) * 31) * 31) + (((r_X7_upper k9 S).1).toInt64)) * 31) + (((r_X7_lower k9 S).1).toInt64)) * 31) + (((r_X7_find k9 (0 : Int32) S).1).toInt64)) * 31) + (((r_X7_find k9 (1 : Int32) S).1).toInt64)) * 31) + (((r_X7_rank k9 S).1).toInt64)) (0 : Int32) x30 hp30 hS30 (by decide) (250 * fu + bc + 13) (2750 * fu + bs + 143) (fun hp31 x31 hS31 fr31 => ?_)
              show qq_Go _ hp31 (250 * fu + bc + 13) (2750 * fu + bs + 143) 219 [(0, .ref 84), (1, .long ((lf_X7_digest_192 k9 5 (((((((((((((((((d9 * 31) + (((r_X7_kind k9 S).1).toInt64)) * 31) + (((r_X7_of k9 S).1).toInt64)) * 31) + ((0 : Int32).toInt64)) * 31) * 31) + (((r_X7_upper k9 S).1).toInt64)) * 31) + (((r_X7_lower k9 S).1).toInt64)) * 31) + (((r_X7_find k9 (0 : Int32) S).1).toInt64)) * 31) + (((r_X7_find k9 (1 : Int32) S).1).toInt64)) * 31) + (((r_X7_rank k9 S).1).toInt64)) (0 : Int32) S).1)), (3, .int k9)] [] _ _
              refine qq_iinc (v := k9 + 1) (loc' := [(0, .ref 84), (1, .long ((lf_X7_digest_192 k9 5 (((((((((((((((((d9 * 31) + (((r_X7_kind k9 S).1).toInt64)) * 31) + (((r_X7_of k9 S).1).toInt64)) * 31) + ((0 : Int32).toInt64)) * 31) * 31) + (((r_X7_upper k9 S).1).toInt64)) * 31) + (((r_X7_lower k9 S).1).toInt64)) * 31) + (((r_X7_find k9 (0 : Int32) S).1).toInt64)) * 31) + (((r_X7_find k9 (1 : Int32) S).1).toInt64)) * 31) + (((r_X7_rank k9 S).1).toInt64)) (0 : Int32) S).1)), (3, .int (k9 + 1))]) dX7_digest_219 2 rfl rfl [1, 2, 0] (Nat.le_of_ble_eq_true rfl) rfl ?_
              refine qq_goto (tgt := 6) dX7_digest_222 (by decide) ?_
              have ze : lf_X7_digest_6 (fu + 1) d9 k9 S = lf_X7_digest_6 fu ((lf_X7_digest_192 k9 5 (((((((((((((((((d9 * 31) + (((r_X7_kind k9 S).1).toInt64)) * 31) + (((r_X7_of k9 S).1).toInt64)) * 31) + ((0 : Int32).toInt64)) * 31) * 31) + (((r_X7_upper k9 S).1).toInt64)) * 31) + (((r_X7_lower k9 S).1).toInt64)) * 31) + (((r_X7_find k9 (0 : Int32) S).1).toInt64)) * 31) + (((r_X7_find k9 (1 : Int32) S).1).toInt64)) * 31) + (((r_X7_rank k9 S).1).toInt64)) (0 : Int32) S).1) (k9 + 1) S := by
                rw [lf_X7_digest_6, if_neg zc1, if_pos zc2, if_pos zc3, if_neg zc5, if_pos zc7]
              rw [ze] at hk
              refine qq_less (bc' := 250 * fu + bc) (bs' := 2750 * fu + bs) (by omega) (by omega) ?_
              exact lqih ((lf_X7_digest_192 k9 5 (((((((((((((((((d9 * 31) + (((r_X7_kind k9 S).1).toInt64)) * 31) + (((r_X7_of k9 S).1).toInt64)) * 31) + ((0 : Int32).toInt64)) * 31) * 31) + (((r_X7_upper k9 S).1).toInt64)) * 31) + (((r_X7_lower k9 S).1).toInt64)) * 31) + (((r_X7_find k9 (0 : Int32) S).1).toInt64)) * 31) + (((r_X7_find k9 (1 : Int32) S).1).toInt64)) * 31) + (((r_X7_rank k9 S).1).toInt64)) (0 : Int32) S).1) (k9 + 1) x31 hp31 hS31 (qm_pos zp zc1) (qm_up zc1 zh) bc bs (fun hq x8 h1 h2 => hk hq x8 h1 (fr_t (fr_t (fr_t (fr_t (fr_t (fr_t (fr_t (fr_t (fr_t fr1 fr2) fr3) fr26) fr27) fr28) fr29) fr30) fr31) h2))
            · refine qq_lload_n dX7_digest_118 rfl 1 rfl ?_
              refine qq_ldc2 (v := 31) dX7_digest_119 kl_X7_271 ?_
              refine qq_lmul dX7_digest_122 ?_
              refine qq_goto (tgt := 149) dX7_digest_123 (by decide) ?_
              refine qq_lstore_n (loc' := [(0, .ref 84), (1, .long ((((((((d9 * 31) + (((r_X7_kind k9 S).1).toInt64)) * 31) + (((r_X7_of k9 S).1).toInt64)) * 31) + ((0 : Int32).toInt64)) * 31) * 31)), (3, .int k9)]) dX7_digest_149 rfl [1, 0, 2] (Nat.le_of_ble_eq_true rfl) rfl ?_
              refine qq_lload_n dX7_digest_150 rfl 1 rfl ?_
              refine qq_ldc2 (v := 31) dX7_digest_151 kl_X7_271 ?_
              refine qq_lmul dX7_digest_154 ?_
              refine qq_aload_n dX7_digest_155 rfl 0 rfl ?_
              refine qq_iload_n dX7_digest_156 rfl 2 rfl ?_
              refine qq_iconst (v := 0) dX7_digest_157 (by decide) ?_
              refine qq_less (bc' := 250 * fu + bc + 247 + 0) (bs' := 2750 * fu + bs + 2717 + 0) (by omega) (by omega) ?_
              refine qq_callV (bc := 250 * fu + bc + 247) (bs := 2750 * fu + bs + 2717) (mc := 0) (ms := 0) (o := 84) (ci := 4) (N := 11) (T := TX7) (as := [.int k9, .int 0]) (rest := [.long (((((((((d9 * 31) + (((r_X7_kind k9 S).1).toInt64)) * 31) + (((r_X7_of k9 S).1).toInt64)) * 31) + ((0 : Int32).toInt64)) * 31) * 31) * 31)]) dX7_digest_158 hS3.2.2.1 (by decide) rfl (mo_X7_find hp3 A x3 S hS3 k9 (0 : Int32) ) rfl kl_X7_294 kn_X7_find ke_X7_find ki_X7 kc_X7_find kd_X7_find rfl (by decide) (by decide) (Nat.le_of_ble_eq_true rfl) (fun v hp32 hv _ _ => ?_) (fun E hp' zx _ _ => zx.elim)
              obtain ⟨rfl, hS32, fr32⟩ := hv
              obtain ⟨x32, ex32⟩ : ∃ x, x = (r_X7_find k9 (0 : Int32) S).2.2.2.2.2.2.2 := ⟨_, rfl⟩
              rw [← ex32] at hS32
              show qq_Go _ hp32 (250 * fu + bc + 247) (2750 * fu + bs + 2717) 161 [(0, .ref 84), (1, .long ((((((((d9 * 31) + (((r_X7_kind k9 S).1).toInt64)) * 31) + (((r_X7_of k9 S).1).toInt64)) * 31) + ((0 : Int32).toInt64)) * 31) * 31)), (3, .int k9)] [.int ((r_X7_find k9 (0 : Int32) S).1), .long (((((((((d9 * 31) + (((r_X7_kind k9 S).1).toInt64)) * 31) + (((r_X7_of k9 S).1).toInt64)) * 31) + ((0 : Int32).toInt64)) * 31) * 31) * 31)] _ _
              refine qq_i2l dX7_digest_161 ?_
              refine qq_ladd dX7_digest_162 ?_
              refine qq_ldc2 (v := 31) dX7_digest_163 kl_X7_271 ?_
              refine qq_lmul dX7_digest_166 ?_
              refine qq_aload_n dX7_digest_167 rfl 0 rfl ?_
              refine qq_iload_n dX7_digest_168 rfl 2 rfl ?_
              refine qq_iconst (v := 1) dX7_digest_169 (by decide) ?_
              refine qq_less (bc' := 250 * fu + bc + 247 + 0) (bs' := 2750 * fu + bs + 2717 + 0) (by omega) (by omega) ?_
              refine qq_callV (bc := 250 * fu + bc + 247) (bs := 2750 * fu + bs + 2717) (mc := 0) (ms := 0) (o := 84) (ci := 4) (N := 11) (T := TX7) (as := [.int k9, .int 1]) (rest := [.long (((((((((((d9 * 31) + (((r_X7_kind k9 S).1).toInt64)) * 31) + (((r_X7_of k9 S).1).toInt64)) * 31) + ((0 : Int32).toInt64)) * 31) * 31) * 31) + (((r_X7_find k9 (0 : Int32) S).1).toInt64)) * 31)]) dX7_digest_170 hS32.2.2.1 (by decide) rfl (mo_X7_find hp32 A x32 S hS32 k9 (1 : Int32) ) rfl kl_X7_294 kn_X7_find ke_X7_find ki_X7 kc_X7_find kd_X7_find rfl (by decide) (by decide) (Nat.le_of_ble_eq_true rfl) (fun v hp33 hv _ _ => ?_) (fun E hp' zx _ _ => zx.elim)
              obtain ⟨rfl, hS33, fr33⟩ := hv
              obtain ⟨x33, ex33⟩ : ∃ x, x = (r_X7_find k9 (1 : Int32) S).2.2.2.2.2.2.2 := ⟨_, rfl⟩
              rw [← ex33] at hS33
              show qq_Go _ hp33 (250 * fu + bc + 247) (2750 * fu + bs + 2717) 173 [(0, .ref 84), (1, .long ((((((((d9 * 31) + (((r_X7_kind k9 S).1).toInt64)) * 31) + (((r_X7_of k9 S).1).toInt64)) * 31) + ((0 : Int32).toInt64)) * 31) * 31)), (3, .int k9)] [.int ((r_X7_find k9 (1 : Int32) S).1), .long (((((((((((d9 * 31) + (((r_X7_kind k9 S).1).toInt64)) * 31) + (((r_X7_of k9 S).1).toInt64)) * 31) + ((0 : Int32).toInt64)) * 31) * 31) * 31) + (((r_X7_find k9 (0 : Int32) S).1).toInt64)) * 31)] _ _
              refine qq_i2l dX7_digest_173 ?_
              refine qq_ladd dX7_digest_174 ?_
              refine qq_lstore_n (loc' := [(0, .ref 84), (1, .long ((((((((((((d9 * 31) + (((r_X7_kind k9 S).1).toInt64)) * 31) + (((r_X7_of k9 S).1).toInt64)) * 31) + ((0 : Int32).toInt64)) * 31) * 31) * 31) + (((r_X7_find k9 (0 : Int32) S).1).toInt64)) * 31) + (((r_X7_find k9 (1 : Int32) S).1).toInt64))), (3, .int k9)]) dX7_digest_175 rfl [1, 0, 2] (Nat.le_of_ble_eq_true rfl) rfl ?_
              refine qq_lload_n dX7_digest_176 rfl 1 rfl ?_
              refine qq_ldc2 (v := 31) dX7_digest_177 kl_X7_271 ?_
              refine qq_lmul dX7_digest_180 ?_
              refine qq_aload_n dX7_digest_181 rfl 0 rfl ?_
              refine qq_iload_n dX7_digest_182 rfl 2 rfl ?_
              refine qq_less (bc' := 250 * fu + bc + 193 + 54) (bs' := 2750 * fu + bs + 2123 + 594) (by omega) (by omega) ?_
              refine qq_callV (bc := 250 * fu + bc + 193) (bs := 2750 * fu + bs + 2123) (mc := 54) (ms := 594) (o := 84) (ci := 4) (N := 11) (T := TX7) (as := [.int k9]) (rest := [.long (((((((((((((d9 * 31) + (((r_X7_kind k9 S).1).toInt64)) * 31) + (((r_X7_of k9 S).1).toInt64)) * 31) + ((0 : Int32).toInt64)) * 31) * 31) * 31) + (((r_X7_find k9 (0 : Int32) S).1).toInt64)) * 31) + (((r_X7_find k9 (1 : Int32) S).1).toInt64)) * 31)]) dX7_digest_183 hS33.2.2.1 (by decide) rfl (mo_X7_rank hp33 A x33 S hS33 k9 zI) rfl kl_X7_298 kn_X7_rank ke_X7_rank ki_X7 kc_X7_rank kd_X7_rank rfl (by decide) (by decide) (Nat.le_of_ble_eq_true rfl) (fun v hp34 hv _ _ => ?_) (fun E hp' zx _ _ => zx.elim)
              obtain ⟨rfl, hS34, fr34⟩ := hv
              obtain ⟨x34, ex34⟩ : ∃ x, x = (r_X7_rank k9 S).2.2.2.2.2.2.2 := ⟨_, rfl⟩
              rw [← ex34] at hS34
              show qq_Go _ hp34 (250 * fu + bc + 193) (2750 * fu + bs + 2123) 186 [(0, .ref 84), (1, .long ((((((((((((d9 * 31) + (((r_X7_kind k9 S).1).toInt64)) * 31) + (((r_X7_of k9 S).1).toInt64)) * 31) + ((0 : Int32).toInt64)) * 31) * 31) * 31) + (((r_X7_find k9 (0 : Int32) S).1).toInt64)) * 31) + (((r_X7_find k9 (1 : Int32) S).1).toInt64))), (3, .int k9)] [.int ((r_X7_rank k9 S).1), .long (((((((((((((d9 * 31) + (((r_X7_kind k9 S).1).toInt64)) * 31) + (((r_X7_of k9 S).1).toInt64)) * 31) + ((0 : Int32).toInt64)) * 31) * 31) * 31) + (((r_X7_find k9 (0 : Int32) S).1).toInt64)) * 31) + (((r_X7_find k9 (1 : Int32) S).1).toInt64)) * 31)] _ _
              refine qq_i2l dX7_digest_186 ?_
              refine qq_ladd dX7_digest_187 ?_
              refine qq_lstore_n (loc' := [(0, .ref 84), (1, .long ((((((((((((((d9 * 31) + (((r_X7_kind k9 S).1).toInt64)) * 31) + (((r_X7_of k9 S).1).toInt64)) * 31) + ((0 : Int32).toInt64)) * 31) * 31) * 31) + (((r_X7_find k9 (0 : Int32) S).1).toInt64)) * 31) + (((r_X7_find k9 (1 : Int32) S).1).toInt64)) * 31) + (((r_X7_rank k9 S).1).toInt64))), (3, .int k9)]) dX7_digest_188 rfl [1, 0, 2] (Nat.le_of_ble_eq_true rfl) rfl ?_
              refine qq_iconst (v := 0) dX7_digest_189 (by decide) ?_
              refine qq_istore (loc' := [(0, .ref 84), (1, .long ((((((((((((((d9 * 31) + (((r_X7_kind k9 S).1).toInt64)) * 31) + (((r_X7_of k9 S).1).toInt64)) * 31) + ((0 : Int32).toInt64)) * 31) * 31) * 31) + (((r_X7_find k9 (0 : Int32) S).1).toInt64)) * 31) + (((r_X7_find k9 (1 : Int32) S).1).toInt64)) * 31) + (((r_X7_rank k9 S).1).toInt64))), (3, .int k9), (4, .int 0)]) dX7_digest_190 [1, 2, 3, 0] (Nat.le_of_ble_eq_true rfl) rfl ?_
              refine qq_less (bc' := 250 * fu + bc + 13 + 180) (bs' := 2750 * fu + bs + 143 + 1980) (by omega) (by omega) ?_
              refine qq_less (bc' := 36 * 5 + (250 * fu + bc + 13)) (bs' := 396 * 5 + (2750 * fu + bs + 143)) (by omega) (by omega) ?_
              refine lq_X7_digest_192 k9 A S zI zH (qm_in8 zp zc1) 5 ((((((((((((((d9 * 31) + (((r_X7_kind k9 S).1).toInt64)) * 31) + (((r_X7_of k9 S).1).toInt64)) * 31) + ((0 : Int32).toInt64)) * 31) * 31) * 31) + (((r_X7_find k9 (0 : Int32) S).1).toInt64)) * 31) + (((r_X7_find k9 (1 : Int32) S).1).toInt64)) * 31) + (((r_X7_rank k9 S).1).toInt64)) (0 : Int32) x34 hp34 hS34 (by decide) (250 * fu + bc + 13) (2750 * fu + bs + 143) (fun hp35 x35 hS35 fr35 => ?_)
              show qq_Go _ hp35 (250 * fu + bc + 13) (2750 * fu + bs + 143) 219 [(0, .ref 84), (1, .long ((lf_X7_digest_192 k9 5 ((((((((((((((d9 * 31) + (((r_X7_kind k9 S).1).toInt64)) * 31) + (((r_X7_of k9 S).1).toInt64)) * 31) + ((0 : Int32).toInt64)) * 31) * 31) * 31) + (((r_X7_find k9 (0 : Int32) S).1).toInt64)) * 31) + (((r_X7_find k9 (1 : Int32) S).1).toInt64)) * 31) + (((r_X7_rank k9 S).1).toInt64)) (0 : Int32) S).1)), (3, .int k9)] [] _ _
              refine qq_iinc (v := k9 + 1) (loc' := [(0, .ref 84), (1, .long ((lf_X7_digest_192 k9 5 ((((((((((((((d9 * 31) + (((r_X7_kind k9 S).1).toInt64)) * 31) + (((r_X7_of k9 S).1).toInt64)) * 31) + ((0 : Int32).toInt64)) * 31) * 31) * 31) + (((r_X7_find k9 (0 : Int32) S).1).toInt64)) * 31) + (((r_X7_find k9 (1 : Int32) S).1).toInt64)) * 31) + (((r_X7_rank k9 S).1).toInt64)) (0 : Int32) S).1)), (3, .int (k9 + 1))]) dX7_digest_219 2 rfl rfl [1, 2, 0] (Nat.le_of_ble_eq_true rfl) rfl ?_
              refine qq_goto (tgt := 6) dX7_digest_222 (by decide) ?_
              have ze : lf_X7_digest_6 (fu + 1) d9 k9 S = lf_X7_digest_6 fu ((lf_X7_digest_192 k9 5 ((((((((((((((d9 * 31) + (((r_X7_kind k9 S).1).toInt64)) * 31) + (((r_X7_of k9 S).1).toInt64)) * 31) + ((0 : Int32).toInt64)) * 31) * 31) * 31) + (((r_X7_find k9 (0 : Int32) S).1).toInt64)) * 31) + (((r_X7_find k9 (1 : Int32) S).1).toInt64)) * 31) + (((r_X7_rank k9 S).1).toInt64)) (0 : Int32) S).1) (k9 + 1) S := by
                rw [lf_X7_digest_6, if_neg zc1, if_pos zc2, if_pos zc3, if_neg zc5, if_neg zc7]
              rw [ze] at hk
              refine qq_less (bc' := 250 * fu + bc) (bs' := 2750 * fu + bs) (by omega) (by omega) ?_
              exact lqih ((lf_X7_digest_192 k9 5 ((((((((((((((d9 * 31) + (((r_X7_kind k9 S).1).toInt64)) * 31) + (((r_X7_of k9 S).1).toInt64)) * 31) + ((0 : Int32).toInt64)) * 31) * 31) * 31) + (((r_X7_find k9 (0 : Int32) S).1).toInt64)) * 31) + (((r_X7_find k9 (1 : Int32) S).1).toInt64)) * 31) + (((r_X7_rank k9 S).1).toInt64)) (0 : Int32) S).1) (k9 + 1) x35 hp35 hS35 (qm_pos zp zc1) (qm_up zc1 zh) bc bs (fun hq x8 h1 h2 => hk hq x8 h1 (fr_t (fr_t (fr_t (fr_t (fr_t (fr_t (fr_t fr1 fr2) fr3) fr32) fr33) fr34) fr35) h2))
      · refine qq_iconst (v := 1) dX7_digest_51 (by decide) ?_
        refine qq_goto (tgt := 56) dX7_digest_52 (by decide) ?_
        refine qq_i2l dX7_digest_56 ?_
        refine qq_ladd dX7_digest_57 ?_
        refine qq_lstore_n (loc' := [(0, .ref 84), (1, .long ((((((d9 * 31) + (((r_X7_kind k9 S).1).toInt64)) * 31) + (((r_X7_of k9 S).1).toInt64)) * 31) + ((1 : Int32).toInt64))), (3, .int k9)]) dX7_digest_58 rfl [1, 0, 2] (Nat.le_of_ble_eq_true rfl) rfl ?_
        refine qq_aload_n dX7_digest_59 rfl 0 rfl ?_
        refine qq_iload_n dX7_digest_60 rfl 2 rfl ?_
        refine qq_less (bc' := 250 * fu + bc + 247 + 0) (bs' := 2750 * fu + bs + 2717 + 0) (by omega) (by omega) ?_
        refine qq_callV (bc := 250 * fu + bc + 247) (bs := 2750 * fu + bs + 2717) (mc := 0) (ms := 0) (o := 84) (ci := 4) (N := 11) (T := TX7) (as := [.int k9]) (rest := []) dX7_digest_61 hS3.2.2.1 (by decide) rfl (mt_X7_isUntold hp3 A (th x3 S) hS3 k9 (qm_in8 zp zc1)) rfl kl_X7_174 kn_X7_isUntold ke_X7_isUntold ki_X7 kc_X7_isUntold kd_X7_isUntold rfl (by decide) (by decide) (Nat.le_of_ble_eq_true rfl) (fun v hp' hv _ _ => ?_) (fun E hp' zx _ _ => zx.elim)
        obtain ⟨rfl, rfl⟩ := hv
        show qq_Go _ hp3 (250 * fu + bc + 247) (2750 * fu + bs + 2717) 64 [(0, .ref 84), (1, .long ((((((d9 * 31) + (((r_X7_kind k9 S).1).toInt64)) * 31) + (((r_X7_of k9 S).1).toInt64)) * 31) + ((1 : Int32).toInt64))), (3, .int k9)] [.int (r_X7_isUntold k9 S)] _ _
        refine qq_if_ne (tgt := 75) dX7_digest_64 (by decide) (fun zc8 => ?_) (fun zc8 => ?_)
        · refine qq_lload_n dX7_digest_75 rfl 1 rfl ?_
          refine qq_ldc2 (v := 31) dX7_digest_76 kl_X7_271 ?_
          refine qq_lmul dX7_digest_79 ?_
          refine qq_lstore_n (loc' := [(0, .ref 84), (1, .long (((((((d9 * 31) + (((r_X7_kind k9 S).1).toInt64)) * 31) + (((r_X7_of k9 S).1).toInt64)) * 31) + ((1 : Int32).toInt64)) * 31)), (3, .int k9)]) dX7_digest_80 rfl [1, 0, 2] (Nat.le_of_ble_eq_true rfl) rfl ?_
          refine qq_goto (tgt := 108) dX7_digest_81 (by decide) ?_
          refine qq_aload_n dX7_digest_108 rfl 0 rfl ?_
          refine mx_get hS3 dX7_digest_109 4 (by decide) rfl kl_X7_28 ?_
          refine qq_iload_n dX7_digest_112 rfl 2 rfl ?_
          refine qq_iald dX7_digest_113 hS3.2.2.2.1 (qm_in8 zp zc1) ?_
          show qq_Go _ hp3 (250 * fu + bc + 247) (2750 * fu + bs + 2717) 114 [(0, .ref 84), (1, .long (((((((d9 * 31) + (((r_X7_kind k9 S).1).toInt64)) * 31) + (((r_X7_of k9 S).1).toInt64)) * 31) + ((1 : Int32).toInt64)) * 31)), (3, .int k9)] [.int (S.1 k9.toNatClampNeg)] _ _
          refine qq_iconst (v := 1) dX7_digest_114 (by decide) ?_
          refine qq_icmp_le (tgt := 126) dX7_digest_115 (by decide) (fun zc9 => ?_) (fun zc9 => ?_)
          · refine qq_lload_n dX7_digest_126 rfl 1 rfl ?_
            refine qq_ldc2 (v := 31) dX7_digest_127 kl_X7_271 ?_
            refine qq_lmul dX7_digest_130 ?_
            refine qq_aload_n dX7_digest_131 rfl 0 rfl ?_
            refine qq_iload_n dX7_digest_132 rfl 2 rfl ?_
            refine qq_less (bc' := 250 * fu + bc + 247 + 0) (bs' := 2750 * fu + bs + 2717 + 0) (by omega) (by omega) ?_
            refine qq_callV (bc := 250 * fu + bc + 247) (bs := 2750 * fu + bs + 2717) (mc := 0) (ms := 0) (o := 84) (ci := 4) (N := 11) (T := TX7) (as := [.int k9]) (rest := [.long ((((((((d9 * 31) + (((r_X7_kind k9 S).1).toInt64)) * 31) + (((r_X7_of k9 S).1).toInt64)) * 31) + ((1 : Int32).toInt64)) * 31) * 31)]) dX7_digest_133 hS3.2.2.1 (by decide) rfl (mo_X7_upper hp3 A x3 S hS3 k9 ) rfl kl_X7_288 kn_X7_upper ke_X7_upper ki_X7 kc_X7_upper kd_X7_upper rfl (by decide) (by decide) (Nat.le_of_ble_eq_true rfl) (fun v hp36 hv _ _ => ?_) (fun E hp' zx _ _ => zx.elim)
            obtain ⟨rfl, hS36, fr36⟩ := hv
            obtain ⟨x36, ex36⟩ : ∃ x, x = (r_X7_upper k9 S).2.2.2.2.2.2.2 := ⟨_, rfl⟩
            rw [← ex36] at hS36
            show qq_Go _ hp36 (250 * fu + bc + 247) (2750 * fu + bs + 2717) 136 [(0, .ref 84), (1, .long (((((((d9 * 31) + (((r_X7_kind k9 S).1).toInt64)) * 31) + (((r_X7_of k9 S).1).toInt64)) * 31) + ((1 : Int32).toInt64)) * 31)), (3, .int k9)] [.int ((r_X7_upper k9 S).1), .long ((((((((d9 * 31) + (((r_X7_kind k9 S).1).toInt64)) * 31) + (((r_X7_of k9 S).1).toInt64)) * 31) + ((1 : Int32).toInt64)) * 31) * 31)] _ _
            refine qq_i2l dX7_digest_136 ?_
            refine qq_ladd dX7_digest_137 ?_
            refine qq_ldc2 (v := 31) dX7_digest_138 kl_X7_271 ?_
            refine qq_lmul dX7_digest_141 ?_
            refine qq_aload_n dX7_digest_142 rfl 0 rfl ?_
            refine qq_iload_n dX7_digest_143 rfl 2 rfl ?_
            refine qq_less (bc' := 250 * fu + bc + 247 + 0) (bs' := 2750 * fu + bs + 2717 + 0) (by omega) (by omega) ?_
            refine qq_callV (bc := 250 * fu + bc + 247) (bs := 2750 * fu + bs + 2717) (mc := 0) (ms := 0) (o := 84) (ci := 4) (N := 11) (T := TX7) (as := [.int k9]) (rest := [.long ((((((((((d9 * 31) + (((r_X7_kind k9 S).1).toInt64)) * 31) + (((r_X7_of k9 S).1).toInt64)) * 31) + ((1 : Int32).toInt64)) * 31) * 31) + (((r_X7_upper k9 S).1).toInt64)) * 31)]) dX7_digest_144 hS36.2.2.1 (by decide) rfl (mo_X7_lower hp36 A x36 S hS36 k9 ) rfl kl_X7_291 kn_X7_lower ke_X7_lower ki_X7 kc_X7_lower kd_X7_lower rfl (by decide) (by decide) (Nat.le_of_ble_eq_true rfl) (fun v hp37 hv _ _ => ?_) (fun E hp' zx _ _ => zx.elim)
            obtain ⟨rfl, hS37, fr37⟩ := hv
            obtain ⟨x37, ex37⟩ : ∃ x, x = (r_X7_lower k9 S).2.2.2.2.2.2.2 := ⟨_, rfl⟩
            rw [← ex37] at hS37
            show qq_Go _ hp37 (250 * fu + bc + 247) (2750 * fu + bs + 2717) 147 [(0, .ref 84), (1, .long (((((((d9 * 31) + (((r_X7_kind k9 S).1).toInt64)) * 31) + (((r_X7_of k9 S).1).toInt64)) * 31) + ((1 : Int32).toInt64)) * 31)), (3, .int k9)] [.int ((r_X7_lower k9 S).1), .long ((((((((((d9 * 31) + (((r_X7_kind k9 S).1).toInt64)) * 31) + (((r_X7_of k9 S).1).toInt64)) * 31) + ((1 : Int32).toInt64)) * 31) * 31) + (((r_X7_upper k9 S).1).toInt64)) * 31)] _ _
            refine qq_i2l dX7_digest_147 ?_
            refine qq_ladd dX7_digest_148 ?_
            refine qq_lstore_n (loc' := [(0, .ref 84), (1, .long (((((((((((d9 * 31) + (((r_X7_kind k9 S).1).toInt64)) * 31) + (((r_X7_of k9 S).1).toInt64)) * 31) + ((1 : Int32).toInt64)) * 31) * 31) + (((r_X7_upper k9 S).1).toInt64)) * 31) + (((r_X7_lower k9 S).1).toInt64))), (3, .int k9)]) dX7_digest_149 rfl [1, 0, 2] (Nat.le_of_ble_eq_true rfl) rfl ?_
            refine qq_lload_n dX7_digest_150 rfl 1 rfl ?_
            refine qq_ldc2 (v := 31) dX7_digest_151 kl_X7_271 ?_
            refine qq_lmul dX7_digest_154 ?_
            refine qq_aload_n dX7_digest_155 rfl 0 rfl ?_
            refine qq_iload_n dX7_digest_156 rfl 2 rfl ?_
            refine qq_iconst (v := 0) dX7_digest_157 (by decide) ?_
            refine qq_less (bc' := 250 * fu + bc + 247 + 0) (bs' := 2750 * fu + bs + 2717 + 0) (by omega) (by omega) ?_
            refine qq_callV (bc := 250 * fu + bc + 247) (bs := 2750 * fu + bs + 2717) (mc := 0) (ms := 0) (o := 84) (ci := 4) (N := 11) (T := TX7) (as := [.int k9, .int 0]) (rest := [.long ((((((((((((d9 * 31) + (((r_X7_kind k9 S).1).toInt64)) * 31) + (((r_X7_of k9 S).1).toInt64)) * 31) + ((1 : Int32).toInt64)) * 31) * 31) + (((r_X7_upper k9 S).1).toInt64)) * 31) + (((r_X7_lower k9 S).1).toInt64)) * 31)]) dX7_digest_158 hS37.2.2.1 (by decide) rfl (mo_X7_find hp37 A x37 S hS37 k9 (0 : Int32) ) rfl kl_X7_294 kn_X7_find ke_X7_find ki_X7 kc_X7_find kd_X7_find rfl (by decide) (by decide) (Nat.le_of_ble_eq_true rfl) (fun v hp38 hv _ _ => ?_) (fun E hp' zx _ _ => zx.elim)
            obtain ⟨rfl, hS38, fr38⟩ := hv
            obtain ⟨x38, ex38⟩ : ∃ x, x = (r_X7_find k9 (0 : Int32) S).2.2.2.2.2.2.2 := ⟨_, rfl⟩
            rw [← ex38] at hS38
            show qq_Go _ hp38 (250 * fu + bc + 247) (2750 * fu + bs + 2717) 161 [(0, .ref 84), (1, .long (((((((((((d9 * 31) + (((r_X7_kind k9 S).1).toInt64)) * 31) + (((r_X7_of k9 S).1).toInt64)) * 31) + ((1 : Int32).toInt64)) * 31) * 31) + (((r_X7_upper k9 S).1).toInt64)) * 31) + (((r_X7_lower k9 S).1).toInt64))), (3, .int k9)] [.int ((r_X7_find k9 (0 : Int32) S).1), .long ((((((((((((d9 * 31) + (((r_X7_kind k9 S).1).toInt64)) * 31) + (((r_X7_of k9 S).1).toInt64)) * 31) + ((1 : Int32).toInt64)) * 31) * 31) + (((r_X7_upper k9 S).1).toInt64)) * 31) + (((r_X7_lower k9 S).1).toInt64)) * 31)] _ _
            refine qq_i2l dX7_digest_161 ?_
            refine qq_ladd dX7_digest_162 ?_
            refine qq_ldc2 (v := 31) dX7_digest_163 kl_X7_271 ?_
            refine qq_lmul dX7_digest_166 ?_
            refine qq_aload_n dX7_digest_167 rfl 0 rfl ?_
            refine qq_iload_n dX7_digest_168 rfl 2 rfl ?_
            refine qq_iconst (v := 1) dX7_digest_169 (by decide) ?_
            refine qq_less (bc' := 250 * fu + bc + 247 + 0) (bs' := 2750 * fu + bs + 2717 + 0) (by omega) (by omega) ?_
            refine qq_callV (bc := 250 * fu + bc + 247) (bs := 2750 * fu + bs + 2717) (mc := 0) (ms := 0) (o := 84) (ci := 4) (N := 11) (T := TX7) (as := [.int k9, .int 1]) (rest := [.long ((((((((((((((d9 * 31) + (((r_X7_kind k9 S).1).toInt64)) * 31) + (((r_X7_of k9 S).1).toInt64)) * 31) + ((1 : Int32).toInt64)) * 31) * 31) + (((r_X7_upper k9 S).1).toInt64)) * 31) + (((r_X7_lower k9 S).1).toInt64)) * 31) + (((r_X7_find k9 (0 : Int32) S).1).toInt64)) * 31)]) dX7_digest_170 hS38.2.2.1 (by decide) rfl (mo_X7_find hp38 A x38 S hS38 k9 (1 : Int32) ) rfl kl_X7_294 kn_X7_find ke_X7_find ki_X7 kc_X7_find kd_X7_find rfl (by decide) (by decide) (Nat.le_of_ble_eq_true rfl) (fun v hp39 hv _ _ => ?_) (fun E hp' zx _ _ => zx.elim)
            obtain ⟨rfl, hS39, fr39⟩ := hv
            obtain ⟨x39, ex39⟩ : ∃ x, x = (r_X7_find k9 (1 : Int32) S).2.2.2.2.2.2.2 := ⟨_, rfl⟩
            rw [← ex39] at hS39
            show qq_Go _ hp39 (250 * fu + bc + 247) (2750 * fu + bs + 2717) 173 [(0, .ref 84), (1, .long (((((((((((d9 * 31) + (((r_X7_kind k9 S).1).toInt64)) * 31) + (((r_X7_of k9 S).1).toInt64)) * 31) + ((1 : Int32).toInt64)) * 31) * 31) + (((r_X7_upper k9 S).1).toInt64)) * 31) + (((r_X7_lower k9 S).1).toInt64))), (3, .int k9)] [.int ((r_X7_find k9 (1 : Int32) S).1), .long ((((((((((((((d9 * 31) + (((r_X7_kind k9 S).1).toInt64)) * 31) + (((r_X7_of k9 S).1).toInt64)) * 31) + ((1 : Int32).toInt64)) * 31) * 31) + (((r_X7_upper k9 S).1).toInt64)) * 31) + (((r_X7_lower k9 S).1).toInt64)) * 31) + (((r_X7_find k9 (0 : Int32) S).1).toInt64)) * 31)] _ _
            refine qq_i2l dX7_digest_173 ?_
            refine qq_ladd dX7_digest_174 ?_
            refine qq_lstore_n (loc' := [(0, .ref 84), (1, .long (((((((((((((((d9 * 31) + (((r_X7_kind k9 S).1).toInt64)) * 31) + (((r_X7_of k9 S).1).toInt64)) * 31) + ((1 : Int32).toInt64)) * 31) * 31) + (((r_X7_upper k9 S).1).toInt64)) * 31) + (((r_X7_lower k9 S).1).toInt64)) * 31) + (((r_X7_find k9 (0 : Int32) S).1).toInt64)) * 31) + (((r_X7_find k9 (1 : Int32) S).1).toInt64))), (3, .int k9)]) dX7_digest_175 rfl [1, 0, 2] (Nat.le_of_ble_eq_true rfl) rfl ?_
            refine qq_lload_n dX7_digest_176 rfl 1 rfl ?_
            refine qq_ldc2 (v := 31) dX7_digest_177 kl_X7_271 ?_
            refine qq_lmul dX7_digest_180 ?_
            refine qq_aload_n dX7_digest_181 rfl 0 rfl ?_
            refine qq_iload_n dX7_digest_182 rfl 2 rfl ?_
            refine qq_less (bc' := 250 * fu + bc + 193 + 54) (bs' := 2750 * fu + bs + 2123 + 594) (by omega) (by omega) ?_
            refine qq_callV (bc := 250 * fu + bc + 193) (bs := 2750 * fu + bs + 2123) (mc := 54) (ms := 594) (o := 84) (ci := 4) (N := 11) (T := TX7) (as := [.int k9]) (rest := [.long ((((((((((((((((d9 * 31) + (((r_X7_kind k9 S).1).toInt64)) * 31) + (((r_X7_of k9 S).1).toInt64)) * 31) + ((1 : Int32).toInt64)) * 31) * 31) + (((r_X7_upper k9 S).1).toInt64)) * 31) + (((r_X7_lower k9 S).1).toInt64)) * 31) + (((r_X7_find k9 (0 : Int32) S).1).toInt64)) * 31) + (((r_X7_find k9 (1 : Int32) S).1).toInt64)) * 31)]) dX7_digest_183 hS39.2.2.1 (by decide) rfl (mo_X7_rank hp39 A x39 S hS39 k9 zI) rfl kl_X7_298 kn_X7_rank ke_X7_rank ki_X7 kc_X7_rank kd_X7_rank rfl (by decide) (by decide) (Nat.le_of_ble_eq_true rfl) (fun v hp40 hv _ _ => ?_) (fun E hp' zx _ _ => zx.elim)
            obtain ⟨rfl, hS40, fr40⟩ := hv
            obtain ⟨x40, ex40⟩ : ∃ x, x = (r_X7_rank k9 S).2.2.2.2.2.2.2 := ⟨_, rfl⟩
            rw [← ex40] at hS40
            show qq_Go _ hp40 (250 * fu + bc + 193) (2750 * fu + bs + 2123) 186 [(0, .ref 84), (1, .long (((((((((((((((d9 * 31) + (((r_X7_kind k9 S).1).toInt64)) * 31) + (((r_X7_of k9 S).1).toInt64)) * 31) + ((1 : Int32).toInt64)) * 31) * 31) + (((r_X7_upper k9 S).1).toInt64)) * 31) + (((r_X7_lower k9 S).1).toInt64)) * 31) + (((r_X7_find k9 (0 : Int32) S).1).toInt64)) * 31) + (((r_X7_find k9 (1 : Int32) S).1).toInt64))), (3, .int k9)] [.int ((r_X7_rank k9 S).1), .long ((((((((((((((((d9 * 31) + (((r_X7_kind k9 S).1).toInt64)) * 31) + (((r_X7_of k9 S).1).toInt64)) * 31) + ((1 : Int32).toInt64)) * 31) * 31) + (((r_X7_upper k9 S).1).toInt64)) * 31) + (((r_X7_lower k9 S).1).toInt64)) * 31) + (((r_X7_find k9 (0 : Int32) S).1).toInt64)) * 31) + (((r_X7_find k9 (1 : Int32) S).1).toInt64)) * 31)] _ _
            refine qq_i2l dX7_digest_186 ?_
            refine qq_ladd dX7_digest_187 ?_
            refine qq_lstore_n (loc' := [(0, .ref 84), (1, .long (((((((((((((((((d9 * 31) + (((r_X7_kind k9 S).1).toInt64)) * 31) + (((r_X7_of k9 S).1).toInt64)) * 31) + ((1 : Int32).toInt64)) * 31) * 31) + (((r_X7_upper k9 S).1).toInt64)) * 31) + (((r_X7_lower k9 S).1).toInt64)) * 31) + (((r_X7_find k9 (0 : Int32) S).1).toInt64)) * 31) + (((r_X7_find k9 (1 : Int32) S).1).toInt64)) * 31) + (((r_X7_rank k9 S).1).toInt64))), (3, .int k9)]) dX7_digest_188 rfl [1, 0, 2] (Nat.le_of_ble_eq_true rfl) rfl ?_
            refine qq_iconst (v := 0) dX7_digest_189 (by decide) ?_
            refine qq_istore (loc' := [(0, .ref 84), (1, .long (((((((((((((((((d9 * 31) + (((r_X7_kind k9 S).1).toInt64)) * 31) + (((r_X7_of k9 S).1).toInt64)) * 31) + ((1 : Int32).toInt64)) * 31) * 31) + (((r_X7_upper k9 S).1).toInt64)) * 31) + (((r_X7_lower k9 S).1).toInt64)) * 31) + (((r_X7_find k9 (0 : Int32) S).1).toInt64)) * 31) + (((r_X7_find k9 (1 : Int32) S).1).toInt64)) * 31) + (((r_X7_rank k9 S).1).toInt64))), (3, .int k9), (4, .int 0)]) dX7_digest_190 [1, 2, 3, 0] (Nat.le_of_ble_eq_true rfl) rfl ?_
            refine qq_less (bc' := 250 * fu + bc + 13 + 180) (bs' := 2750 * fu + bs + 143 + 1980) (by omega) (by omega) ?_
            refine qq_less (bc' := 36 * 5 + (250 * fu + bc + 13)) (bs' := 396 * 5 + (2750 * fu + bs + 143)) (by omega) (by omega) ?_
            refine lq_X7_digest_192 k9 A S zI zH (qm_in8 zp zc1) 5 (((((((((((((((((d9 * 31) + (((r_X7_kind k9 S).1).toInt64)) * 31) + (((r_X7_of k9 S).1).toInt64)) * 31) + ((1 : Int32).toInt64)) * 31) * 31) + (((r_X7_upper k9 S).1).toInt64)) * 31) + (((r_X7_lower k9 S).1).toInt64)) * 31) + (((r_X7_find k9 (0 : Int32) S).1).toInt64)) * 31) + (((r_X7_find k9 (1 : Int32) S).1).toInt64)) * 31) + (((r_X7_rank k9 S).1).toInt64)) (0 : Int32) x40 hp40 hS40 (by decide) (250 * fu + bc + 13) (2750 * fu + bs + 143) (fun hp41 x41 hS41 fr41 => ?_)
            show qq_Go _ hp41 (250 * fu + bc + 13) (2750 * fu + bs + 143) 219 [(0, .ref 84), (1, .long ((lf_X7_digest_192 k9 5 (((((((((((((((((d9 * 31) + (((r_X7_kind k9 S).1).toInt64)) * 31) + (((r_X7_of k9 S).1).toInt64)) * 31) + ((1 : Int32).toInt64)) * 31) * 31) + (((r_X7_upper k9 S).1).toInt64)) * 31) + (((r_X7_lower k9 S).1).toInt64)) * 31) + (((r_X7_find k9 (0 : Int32) S).1).toInt64)) * 31) + (((r_X7_find k9 (1 : Int32) S).1).toInt64)) * 31) + (((r_X7_rank k9 S).1).toInt64)) (0 : Int32) S).1)), (3, .int k9)] [] _ _
            refine qq_iinc (v := k9 + 1) (loc' := [(0, .ref 84), (1, .long ((lf_X7_digest_192 k9 5 (((((((((((((((((d9 * 31) + (((r_X7_kind k9 S).1).toInt64)) * 31) + (((r_X7_of k9 S).1).toInt64)) * 31) + ((1 : Int32).toInt64)) * 31) * 31) + (((r_X7_upper k9 S).1).toInt64)) * 31) + (((r_X7_lower k9 S).1).toInt64)) * 31) + (((r_X7_find k9 (0 : Int32) S).1).toInt64)) * 31) + (((r_X7_find k9 (1 : Int32) S).1).toInt64)) * 31) + (((r_X7_rank k9 S).1).toInt64)) (0 : Int32) S).1)), (3, .int (k9 + 1))]) dX7_digest_219 2 rfl rfl [1, 2, 0] (Nat.le_of_ble_eq_true rfl) rfl ?_
            refine qq_goto (tgt := 6) dX7_digest_222 (by decide) ?_
            have ze : lf_X7_digest_6 (fu + 1) d9 k9 S = lf_X7_digest_6 fu ((lf_X7_digest_192 k9 5 (((((((((((((((((d9 * 31) + (((r_X7_kind k9 S).1).toInt64)) * 31) + (((r_X7_of k9 S).1).toInt64)) * 31) + ((1 : Int32).toInt64)) * 31) * 31) + (((r_X7_upper k9 S).1).toInt64)) * 31) + (((r_X7_lower k9 S).1).toInt64)) * 31) + (((r_X7_find k9 (0 : Int32) S).1).toInt64)) * 31) + (((r_X7_find k9 (1 : Int32) S).1).toInt64)) * 31) + (((r_X7_rank k9 S).1).toInt64)) (0 : Int32) S).1) (k9 + 1) S := by
              rw [lf_X7_digest_6, if_neg zc1, if_neg zc2, if_neg zc8, if_pos zc9]
            rw [ze] at hk
            refine qq_less (bc' := 250 * fu + bc) (bs' := 2750 * fu + bs) (by omega) (by omega) ?_
            exact lqih ((lf_X7_digest_192 k9 5 (((((((((((((((((d9 * 31) + (((r_X7_kind k9 S).1).toInt64)) * 31) + (((r_X7_of k9 S).1).toInt64)) * 31) + ((1 : Int32).toInt64)) * 31) * 31) + (((r_X7_upper k9 S).1).toInt64)) * 31) + (((r_X7_lower k9 S).1).toInt64)) * 31) + (((r_X7_find k9 (0 : Int32) S).1).toInt64)) * 31) + (((r_X7_find k9 (1 : Int32) S).1).toInt64)) * 31) + (((r_X7_rank k9 S).1).toInt64)) (0 : Int32) S).1) (k9 + 1) x41 hp41 hS41 (qm_pos zp zc1) (qm_up zc1 zh) bc bs (fun hq x8 h1 h2 => hk hq x8 h1 (fr_t (fr_t (fr_t (fr_t (fr_t (fr_t (fr_t (fr_t (fr_t fr1 fr2) fr3) fr36) fr37) fr38) fr39) fr40) fr41) h2))
          · refine qq_lload_n dX7_digest_118 rfl 1 rfl ?_
            refine qq_ldc2 (v := 31) dX7_digest_119 kl_X7_271 ?_
            refine qq_lmul dX7_digest_122 ?_
            refine qq_goto (tgt := 149) dX7_digest_123 (by decide) ?_
            refine qq_lstore_n (loc' := [(0, .ref 84), (1, .long ((((((((d9 * 31) + (((r_X7_kind k9 S).1).toInt64)) * 31) + (((r_X7_of k9 S).1).toInt64)) * 31) + ((1 : Int32).toInt64)) * 31) * 31)), (3, .int k9)]) dX7_digest_149 rfl [1, 0, 2] (Nat.le_of_ble_eq_true rfl) rfl ?_
            refine qq_lload_n dX7_digest_150 rfl 1 rfl ?_
            refine qq_ldc2 (v := 31) dX7_digest_151 kl_X7_271 ?_
            refine qq_lmul dX7_digest_154 ?_
            refine qq_aload_n dX7_digest_155 rfl 0 rfl ?_
            refine qq_iload_n dX7_digest_156 rfl 2 rfl ?_
            refine qq_iconst (v := 0) dX7_digest_157 (by decide) ?_
            refine qq_less (bc' := 250 * fu + bc + 247 + 0) (bs' := 2750 * fu + bs + 2717 + 0) (by omega) (by omega) ?_
            refine qq_callV (bc := 250 * fu + bc + 247) (bs := 2750 * fu + bs + 2717) (mc := 0) (ms := 0) (o := 84) (ci := 4) (N := 11) (T := TX7) (as := [.int k9, .int 0]) (rest := [.long (((((((((d9 * 31) + (((r_X7_kind k9 S).1).toInt64)) * 31) + (((r_X7_of k9 S).1).toInt64)) * 31) + ((1 : Int32).toInt64)) * 31) * 31) * 31)]) dX7_digest_158 hS3.2.2.1 (by decide) rfl (mo_X7_find hp3 A x3 S hS3 k9 (0 : Int32) ) rfl kl_X7_294 kn_X7_find ke_X7_find ki_X7 kc_X7_find kd_X7_find rfl (by decide) (by decide) (Nat.le_of_ble_eq_true rfl) (fun v hp42 hv _ _ => ?_) (fun E hp' zx _ _ => zx.elim)
            obtain ⟨rfl, hS42, fr42⟩ := hv
            obtain ⟨x42, ex42⟩ : ∃ x, x = (r_X7_find k9 (0 : Int32) S).2.2.2.2.2.2.2 := ⟨_, rfl⟩
            rw [← ex42] at hS42
            show qq_Go _ hp42 (250 * fu + bc + 247) (2750 * fu + bs + 2717) 161 [(0, .ref 84), (1, .long ((((((((d9 * 31) + (((r_X7_kind k9 S).1).toInt64)) * 31) + (((r_X7_of k9 S).1).toInt64)) * 31) + ((1 : Int32).toInt64)) * 31) * 31)), (3, .int k9)] [.int ((r_X7_find k9 (0 : Int32) S).1), .long (((((((((d9 * 31) + (((r_X7_kind k9 S).1).toInt64)) * 31) + (((r_X7_of k9 S).1).toInt64)) * 31) + ((1 : Int32).toInt64)) * 31) * 31) * 31)] _ _
            refine qq_i2l dX7_digest_161 ?_
            refine qq_ladd dX7_digest_162 ?_
            refine qq_ldc2 (v := 31) dX7_digest_163 kl_X7_271 ?_
            refine qq_lmul dX7_digest_166 ?_
            refine qq_aload_n dX7_digest_167 rfl 0 rfl ?_
            refine qq_iload_n dX7_digest_168 rfl 2 rfl ?_
            refine qq_iconst (v := 1) dX7_digest_169 (by decide) ?_
            refine qq_less (bc' := 250 * fu + bc + 247 + 0) (bs' := 2750 * fu + bs + 2717 + 0) (by omega) (by omega) ?_
            refine qq_callV (bc := 250 * fu + bc + 247) (bs := 2750 * fu + bs + 2717) (mc := 0) (ms := 0) (o := 84) (ci := 4) (N := 11) (T := TX7) (as := [.int k9, .int 1]) (rest := [.long (((((((((((d9 * 31) + (((r_X7_kind k9 S).1).toInt64)) * 31) + (((r_X7_of k9 S).1).toInt64)) * 31) + ((1 : Int32).toInt64)) * 31) * 31) * 31) + (((r_X7_find k9 (0 : Int32) S).1).toInt64)) * 31)]) dX7_digest_170 hS42.2.2.1 (by decide) rfl (mo_X7_find hp42 A x42 S hS42 k9 (1 : Int32) ) rfl kl_X7_294 kn_X7_find ke_X7_find ki_X7 kc_X7_find kd_X7_find rfl (by decide) (by decide) (Nat.le_of_ble_eq_true rfl) (fun v hp43 hv _ _ => ?_) (fun E hp' zx _ _ => zx.elim)
            obtain ⟨rfl, hS43, fr43⟩ := hv
            obtain ⟨x43, ex43⟩ : ∃ x, x = (r_X7_find k9 (1 : Int32) S).2.2.2.2.2.2.2 := ⟨_, rfl⟩
            rw [← ex43] at hS43
            show qq_Go _ hp43 (250 * fu + bc + 247) (2750 * fu + bs + 2717) 173 [(0, .ref 84), (1, .long ((((((((d9 * 31) + (((r_X7_kind k9 S).1).toInt64)) * 31) + (((r_X7_of k9 S).1).toInt64)) * 31) + ((1 : Int32).toInt64)) * 31) * 31)), (3, .int k9)] [.int ((r_X7_find k9 (1 : Int32) S).1), .long (((((((((((d9 * 31) + (((r_X7_kind k9 S).1).toInt64)) * 31) + (((r_X7_of k9 S).1).toInt64)) * 31) + ((1 : Int32).toInt64)) * 31) * 31) * 31) + (((r_X7_find k9 (0 : Int32) S).1).toInt64)) * 31)] _ _
            refine qq_i2l dX7_digest_173 ?_
            refine qq_ladd dX7_digest_174 ?_
            refine qq_lstore_n (loc' := [(0, .ref 84), (1, .long ((((((((((((d9 * 31) + (((r_X7_kind k9 S).1).toInt64)) * 31) + (((r_X7_of k9 S).1).toInt64)) * 31) + ((1 : Int32).toInt64)) * 31) * 31) * 31) + (((r_X7_find k9 (0 : Int32) S).1).toInt64)) * 31) + (((r_X7_find k9 (1 : Int32) S).1).toInt64))), (3, .int k9)]) dX7_digest_175 rfl [1, 0, 2] (Nat.le_of_ble_eq_true rfl) rfl ?_
            refine qq_lload_n dX7_digest_176 rfl 1 rfl ?_
            refine qq_ldc2 (v := 31) dX7_digest_177 kl_X7_271 ?_
            refine qq_lmul dX7_digest_180 ?_
            refine qq_aload_n dX7_digest_181 rfl 0 rfl ?_
            refine qq_iload_n dX7_digest_182 rfl 2 rfl ?_
            refine qq_less (bc' := 250 * fu + bc + 193 + 54) (bs' := 2750 * fu + bs + 2123 + 594) (by omega) (by omega) ?_
            refine qq_callV (bc := 250 * fu + bc + 193) (bs := 2750 * fu + bs + 2123) (mc := 54) (ms := 594) (o := 84) (ci := 4) (N := 11) (T := TX7) (as := [.int k9]) (rest := [.long (((((((((((((d9 * 31) + (((r_X7_kind k9 S).1).toInt64)) * 31) + (((r_X7_of k9 S).1).toInt64)) * 31) + ((1 : Int32).toInt64)) * 31) * 31) * 31) + (((r_X7_find k9 (0 : Int32) S).1).toInt64)) * 31) + (((r_X7_find k9 (1 : Int32) S).1).toInt64)) * 31)]) dX7_digest_183 hS43.2.2.1 (by decide) rfl (mo_X7_rank hp43 A x43 S hS43 k9 zI) rfl kl_X7_298 kn_X7_rank ke_X7_rank ki_X7 kc_X7_rank kd_X7_rank rfl (by decide) (by decide) (Nat.le_of_ble_eq_true rfl) (fun v hp44 hv _ _ => ?_) (fun E hp' zx _ _ => zx.elim)
            obtain ⟨rfl, hS44, fr44⟩ := hv
            obtain ⟨x44, ex44⟩ : ∃ x, x = (r_X7_rank k9 S).2.2.2.2.2.2.2 := ⟨_, rfl⟩
            rw [← ex44] at hS44
            show qq_Go _ hp44 (250 * fu + bc + 193) (2750 * fu + bs + 2123) 186 [(0, .ref 84), (1, .long ((((((((((((d9 * 31) + (((r_X7_kind k9 S).1).toInt64)) * 31) + (((r_X7_of k9 S).1).toInt64)) * 31) + ((1 : Int32).toInt64)) * 31) * 31) * 31) + (((r_X7_find k9 (0 : Int32) S).1).toInt64)) * 31) + (((r_X7_find k9 (1 : Int32) S).1).toInt64))), (3, .int k9)] [.int ((r_X7_rank k9 S).1), .long (((((((((((((d9 * 31) + (((r_X7_kind k9 S).1).toInt64)) * 31) + (((r_X7_of k9 S).1).toInt64)) * 31) + ((1 : Int32).toInt64)) * 31) * 31) * 31) + (((r_X7_find k9 (0 : Int32) S).1).toInt64)) * 31) + (((r_X7_find k9 (1 : Int32) S).1).toInt64)) * 31)] _ _
            refine qq_i2l dX7_digest_186 ?_
            refine qq_ladd dX7_digest_187 ?_
            refine qq_lstore_n (loc' := [(0, .ref 84), (1, .long ((((((((((((((d9 * 31) + (((r_X7_kind k9 S).1).toInt64)) * 31) + (((r_X7_of k9 S).1).toInt64)) * 31) + ((1 : Int32).toInt64)) * 31) * 31) * 31) + (((r_X7_find k9 (0 : Int32) S).1).toInt64)) * 31) + (((r_X7_find k9 (1 : Int32) S).1).toInt64)) * 31) + (((r_X7_rank k9 S).1).toInt64))), (3, .int k9)]) dX7_digest_188 rfl [1, 0, 2] (Nat.le_of_ble_eq_true rfl) rfl ?_
            refine qq_iconst (v := 0) dX7_digest_189 (by decide) ?_
            refine qq_istore (loc' := [(0, .ref 84), (1, .long ((((((((((((((d9 * 31) + (((r_X7_kind k9 S).1).toInt64)) * 31) + (((r_X7_of k9 S).1).toInt64)) * 31) + ((1 : Int32).toInt64)) * 31) * 31) * 31) + (((r_X7_find k9 (0 : Int32) S).1).toInt64)) * 31) + (((r_X7_find k9 (1 : Int32) S).1).toInt64)) * 31) + (((r_X7_rank k9 S).1).toInt64))), (3, .int k9), (4, .int 0)]) dX7_digest_190 [1, 2, 3, 0] (Nat.le_of_ble_eq_true rfl) rfl ?_
            refine qq_less (bc' := 250 * fu + bc + 13 + 180) (bs' := 2750 * fu + bs + 143 + 1980) (by omega) (by omega) ?_
            refine qq_less (bc' := 36 * 5 + (250 * fu + bc + 13)) (bs' := 396 * 5 + (2750 * fu + bs + 143)) (by omega) (by omega) ?_
            refine lq_X7_digest_192 k9 A S zI zH (qm_in8 zp zc1) 5 ((((((((((((((d9 * 31) + (((r_X7_kind k9 S).1).toInt64)) * 31) + (((r_X7_of k9 S).1).toInt64)) * 31) + ((1 : Int32).toInt64)) * 31) * 31) * 31) + (((r_X7_find k9 (0 : Int32) S).1).toInt64)) * 31) + (((r_X7_find k9 (1 : Int32) S).1).toInt64)) * 31) + (((r_X7_rank k9 S).1).toInt64)) (0 : Int32) x44 hp44 hS44 (by decide) (250 * fu + bc + 13) (2750 * fu + bs + 143) (fun hp45 x45 hS45 fr45 => ?_)
            show qq_Go _ hp45 (250 * fu + bc + 13) (2750 * fu + bs + 143) 219 [(0, .ref 84), (1, .long ((lf_X7_digest_192 k9 5 ((((((((((((((d9 * 31) + (((r_X7_kind k9 S).1).toInt64)) * 31) + (((r_X7_of k9 S).1).toInt64)) * 31) + ((1 : Int32).toInt64)) * 31) * 31) * 31) + (((r_X7_find k9 (0 : Int32) S).1).toInt64)) * 31) + (((r_X7_find k9 (1 : Int32) S).1).toInt64)) * 31) + (((r_X7_rank k9 S).1).toInt64)) (0 : Int32) S).1)), (3, .int k9)] [] _ _
            refine qq_iinc (v := k9 + 1) (loc' := [(0, .ref 84), (1, .long ((lf_X7_digest_192 k9 5 ((((((((((((((d9 * 31) + (((r_X7_kind k9 S).1).toInt64)) * 31) + (((r_X7_of k9 S).1).toInt64)) * 31) + ((1 : Int32).toInt64)) * 31) * 31) * 31) + (((r_X7_find k9 (0 : Int32) S).1).toInt64)) * 31) + (((r_X7_find k9 (1 : Int32) S).1).toInt64)) * 31) + (((r_X7_rank k9 S).1).toInt64)) (0 : Int32) S).1)), (3, .int (k9 + 1))]) dX7_digest_219 2 rfl rfl [1, 2, 0] (Nat.le_of_ble_eq_true rfl) rfl ?_
            refine qq_goto (tgt := 6) dX7_digest_222 (by decide) ?_
            have ze : lf_X7_digest_6 (fu + 1) d9 k9 S = lf_X7_digest_6 fu ((lf_X7_digest_192 k9 5 ((((((((((((((d9 * 31) + (((r_X7_kind k9 S).1).toInt64)) * 31) + (((r_X7_of k9 S).1).toInt64)) * 31) + ((1 : Int32).toInt64)) * 31) * 31) * 31) + (((r_X7_find k9 (0 : Int32) S).1).toInt64)) * 31) + (((r_X7_find k9 (1 : Int32) S).1).toInt64)) * 31) + (((r_X7_rank k9 S).1).toInt64)) (0 : Int32) S).1) (k9 + 1) S := by
              rw [lf_X7_digest_6, if_neg zc1, if_neg zc2, if_neg zc8, if_neg zc9]
            rw [ze] at hk
            refine qq_less (bc' := 250 * fu + bc) (bs' := 2750 * fu + bs) (by omega) (by omega) ?_
            exact lqih ((lf_X7_digest_192 k9 5 ((((((((((((((d9 * 31) + (((r_X7_kind k9 S).1).toInt64)) * 31) + (((r_X7_of k9 S).1).toInt64)) * 31) + ((1 : Int32).toInt64)) * 31) * 31) * 31) + (((r_X7_find k9 (0 : Int32) S).1).toInt64)) * 31) + (((r_X7_find k9 (1 : Int32) S).1).toInt64)) * 31) + (((r_X7_rank k9 S).1).toInt64)) (0 : Int32) S).1) (k9 + 1) x45 hp45 hS45 (qm_pos zp zc1) (qm_up zc1 zh) bc bs (fun hq x8 h1 h2 => hk hq x8 h1 (fr_t (fr_t (fr_t (fr_t (fr_t (fr_t (fr_t fr1 fr2) fr3) fr42) fr43) fr44) fr45) h2))
        · refine qq_aload_n dX7_digest_67 rfl 0 rfl ?_
          refine qq_iload_n dX7_digest_68 rfl 2 rfl ?_
          refine qq_less (bc' := 250 * fu + bc + 247 + 0) (bs' := 2750 * fu + bs + 2717 + 0) (by omega) (by omega) ?_
          refine qq_callV (bc := 250 * fu + bc + 247) (bs := 2750 * fu + bs + 2717) (mc := 0) (ms := 0) (o := 84) (ci := 4) (N := 11) (T := TX7) (as := [.int k9]) (rest := []) dX7_digest_69 hS3.2.2.1 (by decide) rfl (mt_X7_isNought hp3 A (th x3 S) hS3 k9 (qm_in8 zp zc1)) rfl kl_X7_109 kn_X7_isNought ke_X7_isNought ki_X7 kc_X7_isNought kd_X7_isNought rfl (by decide) (by decide) (Nat.le_of_ble_eq_true rfl) (fun v hp' hv _ _ => ?_) (fun E hp' zx _ _ => zx.elim)
          obtain ⟨rfl, rfl⟩ := hv
          show qq_Go _ hp3 (250 * fu + bc + 247) (2750 * fu + bs + 2717) 72 [(0, .ref 84), (1, .long ((((((d9 * 31) + (((r_X7_kind k9 S).1).toInt64)) * 31) + (((r_X7_of k9 S).1).toInt64)) * 31) + ((1 : Int32).toInt64))), (3, .int k9)] [.int (r_X7_isNought k9 S)] _ _
          refine qq_if_eq (tgt := 84) dX7_digest_72 (by decide) (fun zc10 => ?_) (fun zc10 => ?_)
          · refine qq_lload_n dX7_digest_84 rfl 1 rfl ?_
            refine qq_ldc2 (v := 31) dX7_digest_85 kl_X7_271 ?_
            refine qq_lmul dX7_digest_88 ?_
            refine qq_aload_n dX7_digest_89 rfl 0 rfl ?_
            refine qq_iload_n dX7_digest_90 rfl 2 rfl ?_
            refine qq_less (bc' := 250 * fu + bc + 242 + 5) (bs' := 2750 * fu + bs + 2662 + 55) (by omega) (by omega) ?_
            refine qq_callV (bc := 250 * fu + bc + 242) (bs := 2750 * fu + bs + 2662) (mc := 5) (ms := 55) (o := 84) (ci := 4) (N := 11) (T := TX7) (as := [.int k9]) (rest := [.long (((((((d9 * 31) + (((r_X7_kind k9 S).1).toInt64)) * 31) + (((r_X7_of k9 S).1).toInt64)) * 31) + ((1 : Int32).toInt64)) * 31)]) dX7_digest_91 hS3.2.2.1 (by decide) rfl (mo_X7_height hp3 A x3 S hS3 k9 zI zH) rfl kl_X7_282 kn_X7_height ke_X7_height ki_X7 kc_X7_height kd_X7_height rfl (by decide) (by decide) (Nat.le_of_ble_eq_true rfl) (fun v hp46 hv _ _ => ?_) (fun E hp' zx _ _ => zx.elim)
            obtain ⟨rfl, hS46, fr46⟩ := hv
            obtain ⟨x46, ex46⟩ : ∃ x, x = (r_X7_height k9 S).2.2.2.2.2.2.2 := ⟨_, rfl⟩
            rw [← ex46] at hS46
            show qq_Go _ hp46 (250 * fu + bc + 242) (2750 * fu + bs + 2662) 94 [(0, .ref 84), (1, .long ((((((d9 * 31) + (((r_X7_kind k9 S).1).toInt64)) * 31) + (((r_X7_of k9 S).1).toInt64)) * 31) + ((1 : Int32).toInt64))), (3, .int k9)] [.int ((r_X7_height k9 S).1), .long (((((((d9 * 31) + (((r_X7_kind k9 S).1).toInt64)) * 31) + (((r_X7_of k9 S).1).toInt64)) * 31) + ((1 : Int32).toInt64)) * 31)] _ _
            refine qq_i2l dX7_digest_94 ?_
            refine qq_ladd dX7_digest_95 ?_
            refine qq_ldc2 (v := 31) dX7_digest_96 kl_X7_271 ?_
            refine qq_lmul dX7_digest_99 ?_
            refine qq_aload_n dX7_digest_100 rfl 0 rfl ?_
            refine qq_iload_n dX7_digest_101 rfl 2 rfl ?_
            refine qq_less (bc' := 250 * fu + bc + 237 + 5) (bs' := 2750 * fu + bs + 2607 + 55) (by omega) (by omega) ?_
            refine qq_callV (bc := 250 * fu + bc + 237) (bs := 2750 * fu + bs + 2607) (mc := 5) (ms := 55) (o := 84) (ci := 4) (N := 11) (T := TX7) (as := [.int k9]) (rest := [.long (((((((((d9 * 31) + (((r_X7_kind k9 S).1).toInt64)) * 31) + (((r_X7_of k9 S).1).toInt64)) * 31) + ((1 : Int32).toInt64)) * 31) + (((r_X7_height k9 S).1).toInt64)) * 31)]) dX7_digest_102 hS46.2.2.1 (by decide) rfl (mo_X7_digits hp46 A x46 S hS46 k9 zI zH) rfl kl_X7_285 kn_X7_digits ke_X7_digits ki_X7 kc_X7_digits kd_X7_digits rfl (by decide) (by decide) (Nat.le_of_ble_eq_true rfl) (fun v hp47 hv _ _ => ?_) (fun E hp' zx _ _ => zx.elim)
            obtain ⟨rfl, hS47, fr47⟩ := hv
            obtain ⟨x47, ex47⟩ : ∃ x, x = (r_X7_digits k9 S).2.2.2.2.2.2.2 := ⟨_, rfl⟩
            rw [← ex47] at hS47
            show qq_Go _ hp47 (250 * fu + bc + 237) (2750 * fu + bs + 2607) 105 [(0, .ref 84), (1, .long ((((((d9 * 31) + (((r_X7_kind k9 S).1).toInt64)) * 31) + (((r_X7_of k9 S).1).toInt64)) * 31) + ((1 : Int32).toInt64))), (3, .int k9)] [.int ((r_X7_digits k9 S).1), .long (((((((((d9 * 31) + (((r_X7_kind k9 S).1).toInt64)) * 31) + (((r_X7_of k9 S).1).toInt64)) * 31) + ((1 : Int32).toInt64)) * 31) + (((r_X7_height k9 S).1).toInt64)) * 31)] _ _
            refine qq_i2l dX7_digest_105 ?_
            refine qq_ladd dX7_digest_106 ?_
            refine qq_lstore_n (loc' := [(0, .ref 84), (1, .long ((((((((((d9 * 31) + (((r_X7_kind k9 S).1).toInt64)) * 31) + (((r_X7_of k9 S).1).toInt64)) * 31) + ((1 : Int32).toInt64)) * 31) + (((r_X7_height k9 S).1).toInt64)) * 31) + (((r_X7_digits k9 S).1).toInt64))), (3, .int k9)]) dX7_digest_107 rfl [1, 0, 2] (Nat.le_of_ble_eq_true rfl) rfl ?_
            refine qq_aload_n dX7_digest_108 rfl 0 rfl ?_
            refine mx_get hS47 dX7_digest_109 4 (by decide) rfl kl_X7_28 ?_
            refine qq_iload_n dX7_digest_112 rfl 2 rfl ?_
            refine qq_iald dX7_digest_113 hS47.2.2.2.1 (qm_in8 zp zc1) ?_
            show qq_Go _ hp47 (250 * fu + bc + 237) (2750 * fu + bs + 2607) 114 [(0, .ref 84), (1, .long ((((((((((d9 * 31) + (((r_X7_kind k9 S).1).toInt64)) * 31) + (((r_X7_of k9 S).1).toInt64)) * 31) + ((1 : Int32).toInt64)) * 31) + (((r_X7_height k9 S).1).toInt64)) * 31) + (((r_X7_digits k9 S).1).toInt64))), (3, .int k9)] [.int (S.1 k9.toNatClampNeg)] _ _
            refine qq_iconst (v := 1) dX7_digest_114 (by decide) ?_
            refine qq_icmp_le (tgt := 126) dX7_digest_115 (by decide) (fun zc11 => ?_) (fun zc11 => ?_)
            · refine qq_lload_n dX7_digest_126 rfl 1 rfl ?_
              refine qq_ldc2 (v := 31) dX7_digest_127 kl_X7_271 ?_
              refine qq_lmul dX7_digest_130 ?_
              refine qq_aload_n dX7_digest_131 rfl 0 rfl ?_
              refine qq_iload_n dX7_digest_132 rfl 2 rfl ?_
              refine qq_less (bc' := 250 * fu + bc + 237 + 0) (bs' := 2750 * fu + bs + 2607 + 0) (by omega) (by omega) ?_
              refine qq_callV (bc := 250 * fu + bc + 237) (bs := 2750 * fu + bs + 2607) (mc := 0) (ms := 0) (o := 84) (ci := 4) (N := 11) (T := TX7) (as := [.int k9]) (rest := [.long (((((((((((d9 * 31) + (((r_X7_kind k9 S).1).toInt64)) * 31) + (((r_X7_of k9 S).1).toInt64)) * 31) + ((1 : Int32).toInt64)) * 31) + (((r_X7_height k9 S).1).toInt64)) * 31) + (((r_X7_digits k9 S).1).toInt64)) * 31)]) dX7_digest_133 hS47.2.2.1 (by decide) rfl (mo_X7_upper hp47 A x47 S hS47 k9 ) rfl kl_X7_288 kn_X7_upper ke_X7_upper ki_X7 kc_X7_upper kd_X7_upper rfl (by decide) (by decide) (Nat.le_of_ble_eq_true rfl) (fun v hp48 hv _ _ => ?_) (fun E hp' zx _ _ => zx.elim)
              obtain ⟨rfl, hS48, fr48⟩ := hv
              obtain ⟨x48, ex48⟩ : ∃ x, x = (r_X7_upper k9 S).2.2.2.2.2.2.2 := ⟨_, rfl⟩
              rw [← ex48] at hS48
              show qq_Go _ hp48 (250 * fu + bc + 237) (2750 * fu + bs + 2607) 136 [(0, .ref 84), (1, .long ((((((((((d9 * 31) + (((r_X7_kind k9 S).1).toInt64)) * 31) + (((r_X7_of k9 S).1).toInt64)) * 31) + ((1 : Int32).toInt64)) * 31) + (((r_X7_height k9 S).1).toInt64)) * 31) + (((r_X7_digits k9 S).1).toInt64))), (3, .int k9)] [.int ((r_X7_upper k9 S).1), .long (((((((((((d9 * 31) + (((r_X7_kind k9 S).1).toInt64)) * 31) + (((r_X7_of k9 S).1).toInt64)) * 31) + ((1 : Int32).toInt64)) * 31) + (((r_X7_height k9 S).1).toInt64)) * 31) + (((r_X7_digits k9 S).1).toInt64)) * 31)] _ _
              refine qq_i2l dX7_digest_136 ?_
              refine qq_ladd dX7_digest_137 ?_
              refine qq_ldc2 (v := 31) dX7_digest_138 kl_X7_271 ?_
              refine qq_lmul dX7_digest_141 ?_
              refine qq_aload_n dX7_digest_142 rfl 0 rfl ?_
              refine qq_iload_n dX7_digest_143 rfl 2 rfl ?_
              refine qq_less (bc' := 250 * fu + bc + 237 + 0) (bs' := 2750 * fu + bs + 2607 + 0) (by omega) (by omega) ?_
              refine qq_callV (bc := 250 * fu + bc + 237) (bs := 2750 * fu + bs + 2607) (mc := 0) (ms := 0) (o := 84) (ci := 4) (N := 11) (T := TX7) (as := [.int k9]) (rest := [.long (((((((((((((d9 * 31) + (((r_X7_kind k9 S).1).toInt64)) * 31) + (((r_X7_of k9 S).1).toInt64)) * 31) + ((1 : Int32).toInt64)) * 31) + (((r_X7_height k9 S).1).toInt64)) * 31) + (((r_X7_digits k9 S).1).toInt64)) * 31) + (((r_X7_upper k9 S).1).toInt64)) * 31)]) dX7_digest_144 hS48.2.2.1 (by decide) rfl (mo_X7_lower hp48 A x48 S hS48 k9 ) rfl kl_X7_291 kn_X7_lower ke_X7_lower ki_X7 kc_X7_lower kd_X7_lower rfl (by decide) (by decide) (Nat.le_of_ble_eq_true rfl) (fun v hp49 hv _ _ => ?_) (fun E hp' zx _ _ => zx.elim)
              obtain ⟨rfl, hS49, fr49⟩ := hv
              obtain ⟨x49, ex49⟩ : ∃ x, x = (r_X7_lower k9 S).2.2.2.2.2.2.2 := ⟨_, rfl⟩
              rw [← ex49] at hS49
              show qq_Go _ hp49 (250 * fu + bc + 237) (2750 * fu + bs + 2607) 147 [(0, .ref 84), (1, .long ((((((((((d9 * 31) + (((r_X7_kind k9 S).1).toInt64)) * 31) + (((r_X7_of k9 S).1).toInt64)) * 31) + ((1 : Int32).toInt64)) * 31) + (((r_X7_height k9 S).1).toInt64)) * 31) + (((r_X7_digits k9 S).1).toInt64))), (3, .int k9)] [.int ((r_X7_lower k9 S).1), .long (((((((((((((d9 * 31) + (((r_X7_kind k9 S).1).toInt64)) * 31) + (((r_X7_of k9 S).1).toInt64)) * 31) + ((1 : Int32).toInt64)) * 31) + (((r_X7_height k9 S).1).toInt64)) * 31) + (((r_X7_digits k9 S).1).toInt64)) * 31) + (((r_X7_upper k9 S).1).toInt64)) * 31)] _ _
              refine qq_i2l dX7_digest_147 ?_
              refine qq_ladd dX7_digest_148 ?_
              refine qq_lstore_n (loc' := [(0, .ref 84), (1, .long ((((((((((((((d9 * 31) + (((r_X7_kind k9 S).1).toInt64)) * 31) + (((r_X7_of k9 S).1).toInt64)) * 31) + ((1 : Int32).toInt64)) * 31) + (((r_X7_height k9 S).1).toInt64)) * 31) + (((r_X7_digits k9 S).1).toInt64)) * 31) + (((r_X7_upper k9 S).1).toInt64)) * 31) + (((r_X7_lower k9 S).1).toInt64))), (3, .int k9)]) dX7_digest_149 rfl [1, 0, 2] (Nat.le_of_ble_eq_true rfl) rfl ?_
              refine qq_lload_n dX7_digest_150 rfl 1 rfl ?_
              refine qq_ldc2 (v := 31) dX7_digest_151 kl_X7_271 ?_
              refine qq_lmul dX7_digest_154 ?_
              refine qq_aload_n dX7_digest_155 rfl 0 rfl ?_
              refine qq_iload_n dX7_digest_156 rfl 2 rfl ?_
              refine qq_iconst (v := 0) dX7_digest_157 (by decide) ?_
              refine qq_less (bc' := 250 * fu + bc + 237 + 0) (bs' := 2750 * fu + bs + 2607 + 0) (by omega) (by omega) ?_
              refine qq_callV (bc := 250 * fu + bc + 237) (bs := 2750 * fu + bs + 2607) (mc := 0) (ms := 0) (o := 84) (ci := 4) (N := 11) (T := TX7) (as := [.int k9, .int 0]) (rest := [.long (((((((((((((((d9 * 31) + (((r_X7_kind k9 S).1).toInt64)) * 31) + (((r_X7_of k9 S).1).toInt64)) * 31) + ((1 : Int32).toInt64)) * 31) + (((r_X7_height k9 S).1).toInt64)) * 31) + (((r_X7_digits k9 S).1).toInt64)) * 31) + (((r_X7_upper k9 S).1).toInt64)) * 31) + (((r_X7_lower k9 S).1).toInt64)) * 31)]) dX7_digest_158 hS49.2.2.1 (by decide) rfl (mo_X7_find hp49 A x49 S hS49 k9 (0 : Int32) ) rfl kl_X7_294 kn_X7_find ke_X7_find ki_X7 kc_X7_find kd_X7_find rfl (by decide) (by decide) (Nat.le_of_ble_eq_true rfl) (fun v hp50 hv _ _ => ?_) (fun E hp' zx _ _ => zx.elim)
              obtain ⟨rfl, hS50, fr50⟩ := hv
              obtain ⟨x50, ex50⟩ : ∃ x, x = (r_X7_find k9 (0 : Int32) S).2.2.2.2.2.2.2 := ⟨_, rfl⟩
              rw [← ex50] at hS50
              show qq_Go _ hp50 (250 * fu + bc + 237) (2750 * fu + bs + 2607) 161 [(0, .ref 84), (1, .long ((((((((((((((d9 * 31) + (((r_X7_kind k9 S).1).toInt64)) * 31) + (((r_X7_of k9 S).1).toInt64)) * 31) + ((1 : Int32).toInt64)) * 31) + (((r_X7_height k9 S).1).toInt64)) * 31) + (((r_X7_digits k9 S).1).toInt64)) * 31) + (((r_X7_upper k9 S).1).toInt64)) * 31) + (((r_X7_lower k9 S).1).toInt64))), (3, .int k9)] [.int ((r_X7_find k9 (0 : Int32) S).1), .long (((((((((((((((d9 * 31) + (((r_X7_kind k9 S).1).toInt64)) * 31) + (((r_X7_of k9 S).1).toInt64)) * 31) + ((1 : Int32).toInt64)) * 31) + (((r_X7_height k9 S).1).toInt64)) * 31) + (((r_X7_digits k9 S).1).toInt64)) * 31) + (((r_X7_upper k9 S).1).toInt64)) * 31) + (((r_X7_lower k9 S).1).toInt64)) * 31)] _ _
              refine qq_i2l dX7_digest_161 ?_
              refine qq_ladd dX7_digest_162 ?_
              refine qq_ldc2 (v := 31) dX7_digest_163 kl_X7_271 ?_
              refine qq_lmul dX7_digest_166 ?_
              refine qq_aload_n dX7_digest_167 rfl 0 rfl ?_
              refine qq_iload_n dX7_digest_168 rfl 2 rfl ?_
              refine qq_iconst (v := 1) dX7_digest_169 (by decide) ?_
              refine qq_less (bc' := 250 * fu + bc + 237 + 0) (bs' := 2750 * fu + bs + 2607 + 0) (by omega) (by omega) ?_
              refine qq_callV (bc := 250 * fu + bc + 237) (bs := 2750 * fu + bs + 2607) (mc := 0) (ms := 0) (o := 84) (ci := 4) (N := 11) (T := TX7) (as := [.int k9, .int 1]) (rest := [.long (((((((((((((((((d9 * 31) + (((r_X7_kind k9 S).1).toInt64)) * 31) + (((r_X7_of k9 S).1).toInt64)) * 31) + ((1 : Int32).toInt64)) * 31) + (((r_X7_height k9 S).1).toInt64)) * 31) + (((r_X7_digits k9 S).1).toInt64)) * 31) + (((r_X7_upper k9 S).1).toInt64)) * 31) + (((r_X7_lower k9 S).1).toInt64)) * 31) + (((r_X7_find k9 (0 : Int32) S).1).toInt64)) * 31)]) dX7_digest_170 hS50.2.2.1 (by decide) rfl (mo_X7_find hp50 A x50 S hS50 k9 (1 : Int32) ) rfl kl_X7_294 kn_X7_find ke_X7_find ki_X7 kc_X7_find kd_X7_find rfl (by decide) (by decide) (Nat.le_of_ble_eq_true rfl) (fun v hp51 hv _ _ => ?_) (fun E hp' zx _ _ => zx.elim)
              obtain ⟨rfl, hS51, fr51⟩ := hv
              obtain ⟨x51, ex51⟩ : ∃ x, x = (r_X7_find k9 (1 : Int32) S).2.2.2.2.2.2.2 := ⟨_, rfl⟩
              rw [← ex51] at hS51
              show qq_Go _ hp51 (250 * fu + bc + 237) (2750 * fu + bs + 2607) 173 [(0, .ref 84), (1, .long ((((((((((((((d9 * 31) + (((r_X7_kind k9 S).1).toInt64)) * 31) + (((r_X7_of k9 S).1).toInt64)) * 31) + ((1 : Int32).toInt64)) * 31) + (((r_X7_height k9 S).1).toInt64)) * 31) + (((r_X7_digits k9 S).1).toInt64)) * 31) + (((r_X7_upper k9 S).1).toInt64)) * 31) + (((r_X7_lower k9 S).1).toInt64))), (3, .int k9)] [.int ((r_X7_find k9 (1 : Int32) S).1), .long (((((((((((((((((d9 * 31) + (((r_X7_kind k9 S).1).toInt64)) * 31) + (((r_X7_of k9 S).1).toInt64)) * 31) + ((1 : Int32).toInt64)) * 31) + (((r_X7_height k9 S).1).toInt64)) * 31) + (((r_X7_digits k9 S).1).toInt64)) * 31) + (((r_X7_upper k9 S).1).toInt64)) * 31) + (((r_X7_lower k9 S).1).toInt64)) * 31) + (((r_X7_find k9 (0 : Int32) S).1).toInt64)) * 31)] _ _
              refine qq_i2l dX7_digest_173 ?_
              refine qq_ladd dX7_digest_174 ?_
              refine qq_lstore_n (loc' := [(0, .ref 84), (1, .long ((((((((((((((((((d9 * 31) + (((r_X7_kind k9 S).1).toInt64)) * 31) + (((r_X7_of k9 S).1).toInt64)) * 31) + ((1 : Int32).toInt64)) * 31) + (((r_X7_height k9 S).1).toInt64)) * 31) + (((r_X7_digits k9 S).1).toInt64)) * 31) + (((r_X7_upper k9 S).1).toInt64)) * 31) + (((r_X7_lower k9 S).1).toInt64)) * 31) + (((r_X7_find k9 (0 : Int32) S).1).toInt64)) * 31) + (((r_X7_find k9 (1 : Int32) S).1).toInt64))), (3, .int k9)]) dX7_digest_175 rfl [1, 0, 2] (Nat.le_of_ble_eq_true rfl) rfl ?_
              refine qq_lload_n dX7_digest_176 rfl 1 rfl ?_
              refine qq_ldc2 (v := 31) dX7_digest_177 kl_X7_271 ?_
              refine qq_lmul dX7_digest_180 ?_
              refine qq_aload_n dX7_digest_181 rfl 0 rfl ?_
              refine qq_iload_n dX7_digest_182 rfl 2 rfl ?_
              refine qq_less (bc' := 250 * fu + bc + 183 + 54) (bs' := 2750 * fu + bs + 2013 + 594) (by omega) (by omega) ?_
              refine qq_callV (bc := 250 * fu + bc + 183) (bs := 2750 * fu + bs + 2013) (mc := 54) (ms := 594) (o := 84) (ci := 4) (N := 11) (T := TX7) (as := [.int k9]) (rest := [.long (((((((((((((((((((d9 * 31) + (((r_X7_kind k9 S).1).toInt64)) * 31) + (((r_X7_of k9 S).1).toInt64)) * 31) + ((1 : Int32).toInt64)) * 31) + (((r_X7_height k9 S).1).toInt64)) * 31) + (((r_X7_digits k9 S).1).toInt64)) * 31) + (((r_X7_upper k9 S).1).toInt64)) * 31) + (((r_X7_lower k9 S).1).toInt64)) * 31) + (((r_X7_find k9 (0 : Int32) S).1).toInt64)) * 31) + (((r_X7_find k9 (1 : Int32) S).1).toInt64)) * 31)]) dX7_digest_183 hS51.2.2.1 (by decide) rfl (mo_X7_rank hp51 A x51 S hS51 k9 zI) rfl kl_X7_298 kn_X7_rank ke_X7_rank ki_X7 kc_X7_rank kd_X7_rank rfl (by decide) (by decide) (Nat.le_of_ble_eq_true rfl) (fun v hp52 hv _ _ => ?_) (fun E hp' zx _ _ => zx.elim)
              obtain ⟨rfl, hS52, fr52⟩ := hv
              obtain ⟨x52, ex52⟩ : ∃ x, x = (r_X7_rank k9 S).2.2.2.2.2.2.2 := ⟨_, rfl⟩
              rw [← ex52] at hS52
              show qq_Go _ hp52 (250 * fu + bc + 183) (2750 * fu + bs + 2013) 186 [(0, .ref 84), (1, .long ((((((((((((((((((d9 * 31) + (((r_X7_kind k9 S).1).toInt64)) * 31) + (((r_X7_of k9 S).1).toInt64)) * 31) + ((1 : Int32).toInt64)) * 31) + (((r_X7_height k9 S).1).toInt64)) * 31) + (((r_X7_digits k9 S).1).toInt64)) * 31) + (((r_X7_upper k9 S).1).toInt64)) * 31) + (((r_X7_lower k9 S).1).toInt64)) * 31) + (((r_X7_find k9 (0 : Int32) S).1).toInt64)) * 31) + (((r_X7_find k9 (1 : Int32) S).1).toInt64))), (3, .int k9)] [.int ((r_X7_rank k9 S).1), .long (((((((((((((((((((d9 * 31) + (((r_X7_kind k9 S).1).toInt64)) * 31) + (((r_X7_of k9 S).1).toInt64)) * 31) + ((1 : Int32).toInt64)) * 31) + (((r_X7_height k9 S).1).toInt64)) * 31) + (((r_X7_digits k9 S).1).toInt64)) * 31) + (((r_X7_upper k9 S).1).toInt64)) * 31) + (((r_X7_lower k9 S).1).toInt64)) * 31) + (((r_X7_find k9 (0 : Int32) S).1).toInt64)) * 31) + (((r_X7_find k9 (1 : Int32) S).1).toInt64)) * 31)] _ _
              refine qq_i2l dX7_digest_186 ?_
              refine qq_ladd dX7_digest_187 ?_
              refine qq_lstore_n (loc' := [(0, .ref 84), (1, .long ((((((((((((((((((((d9 * 31) + (((r_X7_kind k9 S).1).toInt64)) * 31) + (((r_X7_of k9 S).1).toInt64)) * 31) + ((1 : Int32).toInt64)) * 31) + (((r_X7_height k9 S).1).toInt64)) * 31) + (((r_X7_digits k9 S).1).toInt64)) * 31) + (((r_X7_upper k9 S).1).toInt64)) * 31) + (((r_X7_lower k9 S).1).toInt64)) * 31) + (((r_X7_find k9 (0 : Int32) S).1).toInt64)) * 31) + (((r_X7_find k9 (1 : Int32) S).1).toInt64)) * 31) + (((r_X7_rank k9 S).1).toInt64))), (3, .int k9)]) dX7_digest_188 rfl [1, 0, 2] (Nat.le_of_ble_eq_true rfl) rfl ?_
              refine qq_iconst (v := 0) dX7_digest_189 (by decide) ?_
              refine qq_istore (loc' := [(0, .ref 84), (1, .long ((((((((((((((((((((d9 * 31) + (((r_X7_kind k9 S).1).toInt64)) * 31) + (((r_X7_of k9 S).1).toInt64)) * 31) + ((1 : Int32).toInt64)) * 31) + (((r_X7_height k9 S).1).toInt64)) * 31) + (((r_X7_digits k9 S).1).toInt64)) * 31) + (((r_X7_upper k9 S).1).toInt64)) * 31) + (((r_X7_lower k9 S).1).toInt64)) * 31) + (((r_X7_find k9 (0 : Int32) S).1).toInt64)) * 31) + (((r_X7_find k9 (1 : Int32) S).1).toInt64)) * 31) + (((r_X7_rank k9 S).1).toInt64))), (3, .int k9), (4, .int 0)]) dX7_digest_190 [1, 2, 3, 0] (Nat.le_of_ble_eq_true rfl) rfl ?_
              refine qq_less (bc' := 250 * fu + bc + 3 + 180) (bs' := 2750 * fu + bs + 33 + 1980) (by omega) (by omega) ?_
              refine qq_less (bc' := 36 * 5 + (250 * fu + bc + 3)) (bs' := 396 * 5 + (2750 * fu + bs + 33)) (by omega) (by omega) ?_
              refine lq_X7_digest_192 k9 A S zI zH (qm_in8 zp zc1) 5 ((((((((((((((((((((d9 * 31) + (((r_X7_kind k9 S).1).toInt64)) * 31) + (((r_X7_of k9 S).1).toInt64)) * 31) + ((1 : Int32).toInt64)) * 31) + (((r_X7_height k9 S).1).toInt64)) * 31) + (((r_X7_digits k9 S).1).toInt64)) * 31) + (((r_X7_upper k9 S).1).toInt64)) * 31) + (((r_X7_lower k9 S).1).toInt64)) * 31) + (((r_X7_find k9 (0 : Int32) S).1).toInt64)) * 31) + (((r_X7_find k9 (1 : Int32) S).1).toInt64)) * 31) + (((r_X7_rank k9 S).1).toInt64)) (0 : Int32) x52 hp52 hS52 (by decide) (250 * fu + bc + 3) (2750 * fu + bs + 33) (fun hp53 x53 hS53 fr53 => ?_)
              show qq_Go _ hp53 (250 * fu + bc + 3) (2750 * fu + bs + 33) 219 [(0, .ref 84), (1, .long ((lf_X7_digest_192 k9 5 ((((((((((((((((((((d9 * 31) + (((r_X7_kind k9 S).1).toInt64)) * 31) + (((r_X7_of k9 S).1).toInt64)) * 31) + ((1 : Int32).toInt64)) * 31) + (((r_X7_height k9 S).1).toInt64)) * 31) + (((r_X7_digits k9 S).1).toInt64)) * 31) + (((r_X7_upper k9 S).1).toInt64)) * 31) + (((r_X7_lower k9 S).1).toInt64)) * 31) + (((r_X7_find k9 (0 : Int32) S).1).toInt64)) * 31) + (((r_X7_find k9 (1 : Int32) S).1).toInt64)) * 31) + (((r_X7_rank k9 S).1).toInt64)) (0 : Int32) S).1)), (3, .int k9)] [] _ _
              refine qq_iinc (v := k9 + 1) (loc' := [(0, .ref 84), (1, .long ((lf_X7_digest_192 k9 5 ((((((((((((((((((((d9 * 31) + (((r_X7_kind k9 S).1).toInt64)) * 31) + (((r_X7_of k9 S).1).toInt64)) * 31) + ((1 : Int32).toInt64)) * 31) + (((r_X7_height k9 S).1).toInt64)) * 31) + (((r_X7_digits k9 S).1).toInt64)) * 31) + (((r_X7_upper k9 S).1).toInt64)) * 31) + (((r_X7_lower k9 S).1).toInt64)) * 31) + (((r_X7_find k9 (0 : Int32) S).1).toInt64)) * 31) + (((r_X7_find k9 (1 : Int32) S).1).toInt64)) * 31) + (((r_X7_rank k9 S).1).toInt64)) (0 : Int32) S).1)), (3, .int (k9 + 1))]) dX7_digest_219 2 rfl rfl [1, 2, 0] (Nat.le_of_ble_eq_true rfl) rfl ?_
              refine qq_goto (tgt := 6) dX7_digest_222 (by decide) ?_
              have ze : lf_X7_digest_6 (fu + 1) d9 k9 S = lf_X7_digest_6 fu ((lf_X7_digest_192 k9 5 ((((((((((((((((((((d9 * 31) + (((r_X7_kind k9 S).1).toInt64)) * 31) + (((r_X7_of k9 S).1).toInt64)) * 31) + ((1 : Int32).toInt64)) * 31) + (((r_X7_height k9 S).1).toInt64)) * 31) + (((r_X7_digits k9 S).1).toInt64)) * 31) + (((r_X7_upper k9 S).1).toInt64)) * 31) + (((r_X7_lower k9 S).1).toInt64)) * 31) + (((r_X7_find k9 (0 : Int32) S).1).toInt64)) * 31) + (((r_X7_find k9 (1 : Int32) S).1).toInt64)) * 31) + (((r_X7_rank k9 S).1).toInt64)) (0 : Int32) S).1) (k9 + 1) S := by
                rw [lf_X7_digest_6, if_neg zc1, if_neg zc2, if_pos zc8, if_pos zc10, if_pos zc11]
              rw [ze] at hk
              refine qq_less (bc' := 250 * fu + bc) (bs' := 2750 * fu + bs) (by omega) (by omega) ?_
              exact lqih ((lf_X7_digest_192 k9 5 ((((((((((((((((((((d9 * 31) + (((r_X7_kind k9 S).1).toInt64)) * 31) + (((r_X7_of k9 S).1).toInt64)) * 31) + ((1 : Int32).toInt64)) * 31) + (((r_X7_height k9 S).1).toInt64)) * 31) + (((r_X7_digits k9 S).1).toInt64)) * 31) + (((r_X7_upper k9 S).1).toInt64)) * 31) + (((r_X7_lower k9 S).1).toInt64)) * 31) + (((r_X7_find k9 (0 : Int32) S).1).toInt64)) * 31) + (((r_X7_find k9 (1 : Int32) S).1).toInt64)) * 31) + (((r_X7_rank k9 S).1).toInt64)) (0 : Int32) S).1) (k9 + 1) x53 hp53 hS53 (qm_pos zp zc1) (qm_up zc1 zh) bc bs (fun hq x8 h1 h2 => hk hq x8 h1 (fr_t (fr_t (fr_t (fr_t (fr_t (fr_t (fr_t (fr_t (fr_t (fr_t (fr_t fr1 fr2) fr3) fr46) fr47) fr48) fr49) fr50) fr51) fr52) fr53) h2))
            · refine qq_lload_n dX7_digest_118 rfl 1 rfl ?_
              refine qq_ldc2 (v := 31) dX7_digest_119 kl_X7_271 ?_
              refine qq_lmul dX7_digest_122 ?_
              refine qq_goto (tgt := 149) dX7_digest_123 (by decide) ?_
              refine qq_lstore_n (loc' := [(0, .ref 84), (1, .long (((((((((((d9 * 31) + (((r_X7_kind k9 S).1).toInt64)) * 31) + (((r_X7_of k9 S).1).toInt64)) * 31) + ((1 : Int32).toInt64)) * 31) + (((r_X7_height k9 S).1).toInt64)) * 31) + (((r_X7_digits k9 S).1).toInt64)) * 31)), (3, .int k9)]) dX7_digest_149 rfl [1, 0, 2] (Nat.le_of_ble_eq_true rfl) rfl ?_
              refine qq_lload_n dX7_digest_150 rfl 1 rfl ?_
              refine qq_ldc2 (v := 31) dX7_digest_151 kl_X7_271 ?_
              refine qq_lmul dX7_digest_154 ?_
              refine qq_aload_n dX7_digest_155 rfl 0 rfl ?_
              refine qq_iload_n dX7_digest_156 rfl 2 rfl ?_
              refine qq_iconst (v := 0) dX7_digest_157 (by decide) ?_
              refine qq_less (bc' := 250 * fu + bc + 237 + 0) (bs' := 2750 * fu + bs + 2607 + 0) (by omega) (by omega) ?_
              refine qq_callV (bc := 250 * fu + bc + 237) (bs := 2750 * fu + bs + 2607) (mc := 0) (ms := 0) (o := 84) (ci := 4) (N := 11) (T := TX7) (as := [.int k9, .int 0]) (rest := [.long ((((((((((((d9 * 31) + (((r_X7_kind k9 S).1).toInt64)) * 31) + (((r_X7_of k9 S).1).toInt64)) * 31) + ((1 : Int32).toInt64)) * 31) + (((r_X7_height k9 S).1).toInt64)) * 31) + (((r_X7_digits k9 S).1).toInt64)) * 31) * 31)]) dX7_digest_158 hS47.2.2.1 (by decide) rfl (mo_X7_find hp47 A x47 S hS47 k9 (0 : Int32) ) rfl kl_X7_294 kn_X7_find ke_X7_find ki_X7 kc_X7_find kd_X7_find rfl (by decide) (by decide) (Nat.le_of_ble_eq_true rfl) (fun v hp54 hv _ _ => ?_) (fun E hp' zx _ _ => zx.elim)
              obtain ⟨rfl, hS54, fr54⟩ := hv
              obtain ⟨x54, ex54⟩ : ∃ x, x = (r_X7_find k9 (0 : Int32) S).2.2.2.2.2.2.2 := ⟨_, rfl⟩
              rw [← ex54] at hS54
              show qq_Go _ hp54 (250 * fu + bc + 237) (2750 * fu + bs + 2607) 161 [(0, .ref 84), (1, .long (((((((((((d9 * 31) + (((r_X7_kind k9 S).1).toInt64)) * 31) + (((r_X7_of k9 S).1).toInt64)) * 31) + ((1 : Int32).toInt64)) * 31) + (((r_X7_height k9 S).1).toInt64)) * 31) + (((r_X7_digits k9 S).1).toInt64)) * 31)), (3, .int k9)] [.int ((r_X7_find k9 (0 : Int32) S).1), .long ((((((((((((d9 * 31) + (((r_X7_kind k9 S).1).toInt64)) * 31) + (((r_X7_of k9 S).1).toInt64)) * 31) + ((1 : Int32).toInt64)) * 31) + (((r_X7_height k9 S).1).toInt64)) * 31) + (((r_X7_digits k9 S).1).toInt64)) * 31) * 31)] _ _
              refine qq_i2l dX7_digest_161 ?_
              refine qq_ladd dX7_digest_162 ?_
              refine qq_ldc2 (v := 31) dX7_digest_163 kl_X7_271 ?_
              refine qq_lmul dX7_digest_166 ?_
              refine qq_aload_n dX7_digest_167 rfl 0 rfl ?_
              refine qq_iload_n dX7_digest_168 rfl 2 rfl ?_
              refine qq_iconst (v := 1) dX7_digest_169 (by decide) ?_
              refine qq_less (bc' := 250 * fu + bc + 237 + 0) (bs' := 2750 * fu + bs + 2607 + 0) (by omega) (by omega) ?_
              refine qq_callV (bc := 250 * fu + bc + 237) (bs := 2750 * fu + bs + 2607) (mc := 0) (ms := 0) (o := 84) (ci := 4) (N := 11) (T := TX7) (as := [.int k9, .int 1]) (rest := [.long ((((((((((((((d9 * 31) + (((r_X7_kind k9 S).1).toInt64)) * 31) + (((r_X7_of k9 S).1).toInt64)) * 31) + ((1 : Int32).toInt64)) * 31) + (((r_X7_height k9 S).1).toInt64)) * 31) + (((r_X7_digits k9 S).1).toInt64)) * 31) * 31) + (((r_X7_find k9 (0 : Int32) S).1).toInt64)) * 31)]) dX7_digest_170 hS54.2.2.1 (by decide) rfl (mo_X7_find hp54 A x54 S hS54 k9 (1 : Int32) ) rfl kl_X7_294 kn_X7_find ke_X7_find ki_X7 kc_X7_find kd_X7_find rfl (by decide) (by decide) (Nat.le_of_ble_eq_true rfl) (fun v hp55 hv _ _ => ?_) (fun E hp' zx _ _ => zx.elim)
              obtain ⟨rfl, hS55, fr55⟩ := hv
              obtain ⟨x55, ex55⟩ : ∃ x, x = (r_X7_find k9 (1 : Int32) S).2.2.2.2.2.2.2 := ⟨_, rfl⟩
              rw [← ex55] at hS55
              show qq_Go _ hp55 (250 * fu + bc + 237) (2750 * fu + bs + 2607) 173 [(0, .ref 84), (1, .long (((((((((((d9 * 31) + (((r_X7_kind k9 S).1).toInt64)) * 31) + (((r_X7_of k9 S).1).toInt64)) * 31) + ((1 : Int32).toInt64)) * 31) + (((r_X7_height k9 S).1).toInt64)) * 31) + (((r_X7_digits k9 S).1).toInt64)) * 31)), (3, .int k9)] [.int ((r_X7_find k9 (1 : Int32) S).1), .long ((((((((((((((d9 * 31) + (((r_X7_kind k9 S).1).toInt64)) * 31) + (((r_X7_of k9 S).1).toInt64)) * 31) + ((1 : Int32).toInt64)) * 31) + (((r_X7_height k9 S).1).toInt64)) * 31) + (((r_X7_digits k9 S).1).toInt64)) * 31) * 31) + (((r_X7_find k9 (0 : Int32) S).1).toInt64)) * 31)] _ _
              refine qq_i2l dX7_digest_173 ?_
              refine qq_ladd dX7_digest_174 ?_
              refine qq_lstore_n (loc' := [(0, .ref 84), (1, .long (((((((((((((((d9 * 31) + (((r_X7_kind k9 S).1).toInt64)) * 31) + (((r_X7_of k9 S).1).toInt64)) * 31) + ((1 : Int32).toInt64)) * 31) + (((r_X7_height k9 S).1).toInt64)) * 31) + (((r_X7_digits k9 S).1).toInt64)) * 31) * 31) + (((r_X7_find k9 (0 : Int32) S).1).toInt64)) * 31) + (((r_X7_find k9 (1 : Int32) S).1).toInt64))), (3, .int k9)]) dX7_digest_175 rfl [1, 0, 2] (Nat.le_of_ble_eq_true rfl) rfl ?_
              refine qq_lload_n dX7_digest_176 rfl 1 rfl ?_
              refine qq_ldc2 (v := 31) dX7_digest_177 kl_X7_271 ?_
              refine qq_lmul dX7_digest_180 ?_
              refine qq_aload_n dX7_digest_181 rfl 0 rfl ?_
              refine qq_iload_n dX7_digest_182 rfl 2 rfl ?_
              refine qq_less (bc' := 250 * fu + bc + 183 + 54) (bs' := 2750 * fu + bs + 2013 + 594) (by omega) (by omega) ?_
              refine qq_callV (bc := 250 * fu + bc + 183) (bs := 2750 * fu + bs + 2013) (mc := 54) (ms := 594) (o := 84) (ci := 4) (N := 11) (T := TX7) (as := [.int k9]) (rest := [.long ((((((((((((((((d9 * 31) + (((r_X7_kind k9 S).1).toInt64)) * 31) + (((r_X7_of k9 S).1).toInt64)) * 31) + ((1 : Int32).toInt64)) * 31) + (((r_X7_height k9 S).1).toInt64)) * 31) + (((r_X7_digits k9 S).1).toInt64)) * 31) * 31) + (((r_X7_find k9 (0 : Int32) S).1).toInt64)) * 31) + (((r_X7_find k9 (1 : Int32) S).1).toInt64)) * 31)]) dX7_digest_183 hS55.2.2.1 (by decide) rfl (mo_X7_rank hp55 A x55 S hS55 k9 zI) rfl kl_X7_298 kn_X7_rank ke_X7_rank ki_X7 kc_X7_rank kd_X7_rank rfl (by decide) (by decide) (Nat.le_of_ble_eq_true rfl) (fun v hp56 hv _ _ => ?_) (fun E hp' zx _ _ => zx.elim)
              obtain ⟨rfl, hS56, fr56⟩ := hv
              obtain ⟨x56, ex56⟩ : ∃ x, x = (r_X7_rank k9 S).2.2.2.2.2.2.2 := ⟨_, rfl⟩
              rw [← ex56] at hS56
              show qq_Go _ hp56 (250 * fu + bc + 183) (2750 * fu + bs + 2013) 186 [(0, .ref 84), (1, .long (((((((((((((((d9 * 31) + (((r_X7_kind k9 S).1).toInt64)) * 31) + (((r_X7_of k9 S).1).toInt64)) * 31) + ((1 : Int32).toInt64)) * 31) + (((r_X7_height k9 S).1).toInt64)) * 31) + (((r_X7_digits k9 S).1).toInt64)) * 31) * 31) + (((r_X7_find k9 (0 : Int32) S).1).toInt64)) * 31) + (((r_X7_find k9 (1 : Int32) S).1).toInt64))), (3, .int k9)] [.int ((r_X7_rank k9 S).1), .long ((((((((((((((((d9 * 31) + (((r_X7_kind k9 S).1).toInt64)) * 31) + (((r_X7_of k9 S).1).toInt64)) * 31) + ((1 : Int32).toInt64)) * 31) + (((r_X7_height k9 S).1).toInt64)) * 31) + (((r_X7_digits k9 S).1).toInt64)) * 31) * 31) + (((r_X7_find k9 (0 : Int32) S).1).toInt64)) * 31) + (((r_X7_find k9 (1 : Int32) S).1).toInt64)) * 31)] _ _
              refine qq_i2l dX7_digest_186 ?_
              refine qq_ladd dX7_digest_187 ?_
              refine qq_lstore_n (loc' := [(0, .ref 84), (1, .long (((((((((((((((((d9 * 31) + (((r_X7_kind k9 S).1).toInt64)) * 31) + (((r_X7_of k9 S).1).toInt64)) * 31) + ((1 : Int32).toInt64)) * 31) + (((r_X7_height k9 S).1).toInt64)) * 31) + (((r_X7_digits k9 S).1).toInt64)) * 31) * 31) + (((r_X7_find k9 (0 : Int32) S).1).toInt64)) * 31) + (((r_X7_find k9 (1 : Int32) S).1).toInt64)) * 31) + (((r_X7_rank k9 S).1).toInt64))), (3, .int k9)]) dX7_digest_188 rfl [1, 0, 2] (Nat.le_of_ble_eq_true rfl) rfl ?_
              refine qq_iconst (v := 0) dX7_digest_189 (by decide) ?_
              refine qq_istore (loc' := [(0, .ref 84), (1, .long (((((((((((((((((d9 * 31) + (((r_X7_kind k9 S).1).toInt64)) * 31) + (((r_X7_of k9 S).1).toInt64)) * 31) + ((1 : Int32).toInt64)) * 31) + (((r_X7_height k9 S).1).toInt64)) * 31) + (((r_X7_digits k9 S).1).toInt64)) * 31) * 31) + (((r_X7_find k9 (0 : Int32) S).1).toInt64)) * 31) + (((r_X7_find k9 (1 : Int32) S).1).toInt64)) * 31) + (((r_X7_rank k9 S).1).toInt64))), (3, .int k9), (4, .int 0)]) dX7_digest_190 [1, 2, 3, 0] (Nat.le_of_ble_eq_true rfl) rfl ?_
              refine qq_less (bc' := 250 * fu + bc + 3 + 180) (bs' := 2750 * fu + bs + 33 + 1980) (by omega) (by omega) ?_
              refine qq_less (bc' := 36 * 5 + (250 * fu + bc + 3)) (bs' := 396 * 5 + (2750 * fu + bs + 33)) (by omega) (by omega) ?_
              refine lq_X7_digest_192 k9 A S zI zH (qm_in8 zp zc1) 5 (((((((((((((((((d9 * 31) + (((r_X7_kind k9 S).1).toInt64)) * 31) + (((r_X7_of k9 S).1).toInt64)) * 31) + ((1 : Int32).toInt64)) * 31) + (((r_X7_height k9 S).1).toInt64)) * 31) + (((r_X7_digits k9 S).1).toInt64)) * 31) * 31) + (((r_X7_find k9 (0 : Int32) S).1).toInt64)) * 31) + (((r_X7_find k9 (1 : Int32) S).1).toInt64)) * 31) + (((r_X7_rank k9 S).1).toInt64)) (0 : Int32) x56 hp56 hS56 (by decide) (250 * fu + bc + 3) (2750 * fu + bs + 33) (fun hp57 x57 hS57 fr57 => ?_)
              show qq_Go _ hp57 (250 * fu + bc + 3) (2750 * fu + bs + 33) 219 [(0, .ref 84), (1, .long ((lf_X7_digest_192 k9 5 (((((((((((((((((d9 * 31) + (((r_X7_kind k9 S).1).toInt64)) * 31) + (((r_X7_of k9 S).1).toInt64)) * 31) + ((1 : Int32).toInt64)) * 31) + (((r_X7_height k9 S).1).toInt64)) * 31) + (((r_X7_digits k9 S).1).toInt64)) * 31) * 31) + (((r_X7_find k9 (0 : Int32) S).1).toInt64)) * 31) + (((r_X7_find k9 (1 : Int32) S).1).toInt64)) * 31) + (((r_X7_rank k9 S).1).toInt64)) (0 : Int32) S).1)), (3, .int k9)] [] _ _
              refine qq_iinc (v := k9 + 1) (loc' := [(0, .ref 84), (1, .long ((lf_X7_digest_192 k9 5 (((((((((((((((((d9 * 31) + (((r_X7_kind k9 S).1).toInt64)) * 31) + (((r_X7_of k9 S).1).toInt64)) * 31) + ((1 : Int32).toInt64)) * 31) + (((r_X7_height k9 S).1).toInt64)) * 31) + (((r_X7_digits k9 S).1).toInt64)) * 31) * 31) + (((r_X7_find k9 (0 : Int32) S).1).toInt64)) * 31) + (((r_X7_find k9 (1 : Int32) S).1).toInt64)) * 31) + (((r_X7_rank k9 S).1).toInt64)) (0 : Int32) S).1)), (3, .int (k9 + 1))]) dX7_digest_219 2 rfl rfl [1, 2, 0] (Nat.le_of_ble_eq_true rfl) rfl ?_
              refine qq_goto (tgt := 6) dX7_digest_222 (by decide) ?_
              have ze : lf_X7_digest_6 (fu + 1) d9 k9 S = lf_X7_digest_6 fu ((lf_X7_digest_192 k9 5 (((((((((((((((((d9 * 31) + (((r_X7_kind k9 S).1).toInt64)) * 31) + (((r_X7_of k9 S).1).toInt64)) * 31) + ((1 : Int32).toInt64)) * 31) + (((r_X7_height k9 S).1).toInt64)) * 31) + (((r_X7_digits k9 S).1).toInt64)) * 31) * 31) + (((r_X7_find k9 (0 : Int32) S).1).toInt64)) * 31) + (((r_X7_find k9 (1 : Int32) S).1).toInt64)) * 31) + (((r_X7_rank k9 S).1).toInt64)) (0 : Int32) S).1) (k9 + 1) S := by
                rw [lf_X7_digest_6, if_neg zc1, if_neg zc2, if_pos zc8, if_pos zc10, if_neg zc11]
              rw [ze] at hk
              refine qq_less (bc' := 250 * fu + bc) (bs' := 2750 * fu + bs) (by omega) (by omega) ?_
              exact lqih ((lf_X7_digest_192 k9 5 (((((((((((((((((d9 * 31) + (((r_X7_kind k9 S).1).toInt64)) * 31) + (((r_X7_of k9 S).1).toInt64)) * 31) + ((1 : Int32).toInt64)) * 31) + (((r_X7_height k9 S).1).toInt64)) * 31) + (((r_X7_digits k9 S).1).toInt64)) * 31) * 31) + (((r_X7_find k9 (0 : Int32) S).1).toInt64)) * 31) + (((r_X7_find k9 (1 : Int32) S).1).toInt64)) * 31) + (((r_X7_rank k9 S).1).toInt64)) (0 : Int32) S).1) (k9 + 1) x57 hp57 hS57 (qm_pos zp zc1) (qm_up zc1 zh) bc bs (fun hq x8 h1 h2 => hk hq x8 h1 (fr_t (fr_t (fr_t (fr_t (fr_t (fr_t (fr_t (fr_t (fr_t fr1 fr2) fr3) fr46) fr47) fr54) fr55) fr56) fr57) h2))
          · refine qq_lload_n dX7_digest_75 rfl 1 rfl ?_
            refine qq_ldc2 (v := 31) dX7_digest_76 kl_X7_271 ?_
            refine qq_lmul dX7_digest_79 ?_
            refine qq_lstore_n (loc' := [(0, .ref 84), (1, .long (((((((d9 * 31) + (((r_X7_kind k9 S).1).toInt64)) * 31) + (((r_X7_of k9 S).1).toInt64)) * 31) + ((1 : Int32).toInt64)) * 31)), (3, .int k9)]) dX7_digest_80 rfl [1, 0, 2] (Nat.le_of_ble_eq_true rfl) rfl ?_
            refine qq_goto (tgt := 108) dX7_digest_81 (by decide) ?_
            refine qq_aload_n dX7_digest_108 rfl 0 rfl ?_
            refine mx_get hS3 dX7_digest_109 4 (by decide) rfl kl_X7_28 ?_
            refine qq_iload_n dX7_digest_112 rfl 2 rfl ?_
            refine qq_iald dX7_digest_113 hS3.2.2.2.1 (qm_in8 zp zc1) ?_
            show qq_Go _ hp3 (250 * fu + bc + 247) (2750 * fu + bs + 2717) 114 [(0, .ref 84), (1, .long (((((((d9 * 31) + (((r_X7_kind k9 S).1).toInt64)) * 31) + (((r_X7_of k9 S).1).toInt64)) * 31) + ((1 : Int32).toInt64)) * 31)), (3, .int k9)] [.int (S.1 k9.toNatClampNeg)] _ _
            refine qq_iconst (v := 1) dX7_digest_114 (by decide) ?_
            refine qq_icmp_le (tgt := 126) dX7_digest_115 (by decide) (fun zc12 => ?_) (fun zc12 => ?_)
            · refine qq_lload_n dX7_digest_126 rfl 1 rfl ?_
              refine qq_ldc2 (v := 31) dX7_digest_127 kl_X7_271 ?_
              refine qq_lmul dX7_digest_130 ?_
              refine qq_aload_n dX7_digest_131 rfl 0 rfl ?_
              refine qq_iload_n dX7_digest_132 rfl 2 rfl ?_
              refine qq_less (bc' := 250 * fu + bc + 247 + 0) (bs' := 2750 * fu + bs + 2717 + 0) (by omega) (by omega) ?_
              refine qq_callV (bc := 250 * fu + bc + 247) (bs := 2750 * fu + bs + 2717) (mc := 0) (ms := 0) (o := 84) (ci := 4) (N := 11) (T := TX7) (as := [.int k9]) (rest := [.long ((((((((d9 * 31) + (((r_X7_kind k9 S).1).toInt64)) * 31) + (((r_X7_of k9 S).1).toInt64)) * 31) + ((1 : Int32).toInt64)) * 31) * 31)]) dX7_digest_133 hS3.2.2.1 (by decide) rfl (mo_X7_upper hp3 A x3 S hS3 k9 ) rfl kl_X7_288 kn_X7_upper ke_X7_upper ki_X7 kc_X7_upper kd_X7_upper rfl (by decide) (by decide) (Nat.le_of_ble_eq_true rfl) (fun v hp58 hv _ _ => ?_) (fun E hp' zx _ _ => zx.elim)
              obtain ⟨rfl, hS58, fr58⟩ := hv
              obtain ⟨x58, ex58⟩ : ∃ x, x = (r_X7_upper k9 S).2.2.2.2.2.2.2 := ⟨_, rfl⟩
              rw [← ex58] at hS58
              show qq_Go _ hp58 (250 * fu + bc + 247) (2750 * fu + bs + 2717) 136 [(0, .ref 84), (1, .long (((((((d9 * 31) + (((r_X7_kind k9 S).1).toInt64)) * 31) + (((r_X7_of k9 S).1).toInt64)) * 31) + ((1 : Int32).toInt64)) * 31)), (3, .int k9)] [.int ((r_X7_upper k9 S).1), .long ((((((((d9 * 31) + (((r_X7_kind k9 S).1).toInt64)) * 31) + (((r_X7_of k9 S).1).toInt64)) * 31) + ((1 : Int32).toInt64)) * 31) * 31)] _ _
              refine qq_i2l dX7_digest_136 ?_
              refine qq_ladd dX7_digest_137 ?_
              refine qq_ldc2 (v := 31) dX7_digest_138 kl_X7_271 ?_
              refine qq_lmul dX7_digest_141 ?_
              refine qq_aload_n dX7_digest_142 rfl 0 rfl ?_
              refine qq_iload_n dX7_digest_143 rfl 2 rfl ?_
              refine qq_less (bc' := 250 * fu + bc + 247 + 0) (bs' := 2750 * fu + bs + 2717 + 0) (by omega) (by omega) ?_
              refine qq_callV (bc := 250 * fu + bc + 247) (bs := 2750 * fu + bs + 2717) (mc := 0) (ms := 0) (o := 84) (ci := 4) (N := 11) (T := TX7) (as := [.int k9]) (rest := [.long ((((((((((d9 * 31) + (((r_X7_kind k9 S).1).toInt64)) * 31) + (((r_X7_of k9 S).1).toInt64)) * 31) + ((1 : Int32).toInt64)) * 31) * 31) + (((r_X7_upper k9 S).1).toInt64)) * 31)]) dX7_digest_144 hS58.2.2.1 (by decide) rfl (mo_X7_lower hp58 A x58 S hS58 k9 ) rfl kl_X7_291 kn_X7_lower ke_X7_lower ki_X7 kc_X7_lower kd_X7_lower rfl (by decide) (by decide) (Nat.le_of_ble_eq_true rfl) (fun v hp59 hv _ _ => ?_) (fun E hp' zx _ _ => zx.elim)
              obtain ⟨rfl, hS59, fr59⟩ := hv
              obtain ⟨x59, ex59⟩ : ∃ x, x = (r_X7_lower k9 S).2.2.2.2.2.2.2 := ⟨_, rfl⟩
              rw [← ex59] at hS59
              show qq_Go _ hp59 (250 * fu + bc + 247) (2750 * fu + bs + 2717) 147 [(0, .ref 84), (1, .long (((((((d9 * 31) + (((r_X7_kind k9 S).1).toInt64)) * 31) + (((r_X7_of k9 S).1).toInt64)) * 31) + ((1 : Int32).toInt64)) * 31)), (3, .int k9)] [.int ((r_X7_lower k9 S).1), .long ((((((((((d9 * 31) + (((r_X7_kind k9 S).1).toInt64)) * 31) + (((r_X7_of k9 S).1).toInt64)) * 31) + ((1 : Int32).toInt64)) * 31) * 31) + (((r_X7_upper k9 S).1).toInt64)) * 31)] _ _
              refine qq_i2l dX7_digest_147 ?_
              refine qq_ladd dX7_digest_148 ?_
              refine qq_lstore_n (loc' := [(0, .ref 84), (1, .long (((((((((((d9 * 31) + (((r_X7_kind k9 S).1).toInt64)) * 31) + (((r_X7_of k9 S).1).toInt64)) * 31) + ((1 : Int32).toInt64)) * 31) * 31) + (((r_X7_upper k9 S).1).toInt64)) * 31) + (((r_X7_lower k9 S).1).toInt64))), (3, .int k9)]) dX7_digest_149 rfl [1, 0, 2] (Nat.le_of_ble_eq_true rfl) rfl ?_
              refine qq_lload_n dX7_digest_150 rfl 1 rfl ?_
              refine qq_ldc2 (v := 31) dX7_digest_151 kl_X7_271 ?_
              refine qq_lmul dX7_digest_154 ?_
              refine qq_aload_n dX7_digest_155 rfl 0 rfl ?_
              refine qq_iload_n dX7_digest_156 rfl 2 rfl ?_
              refine qq_iconst (v := 0) dX7_digest_157 (by decide) ?_
              refine qq_less (bc' := 250 * fu + bc + 247 + 0) (bs' := 2750 * fu + bs + 2717 + 0) (by omega) (by omega) ?_
              refine qq_callV (bc := 250 * fu + bc + 247) (bs := 2750 * fu + bs + 2717) (mc := 0) (ms := 0) (o := 84) (ci := 4) (N := 11) (T := TX7) (as := [.int k9, .int 0]) (rest := [.long ((((((((((((d9 * 31) + (((r_X7_kind k9 S).1).toInt64)) * 31) + (((r_X7_of k9 S).1).toInt64)) * 31) + ((1 : Int32).toInt64)) * 31) * 31) + (((r_X7_upper k9 S).1).toInt64)) * 31) + (((r_X7_lower k9 S).1).toInt64)) * 31)]) dX7_digest_158 hS59.2.2.1 (by decide) rfl (mo_X7_find hp59 A x59 S hS59 k9 (0 : Int32) ) rfl kl_X7_294 kn_X7_find ke_X7_find ki_X7 kc_X7_find kd_X7_find rfl (by decide) (by decide) (Nat.le_of_ble_eq_true rfl) (fun v hp60 hv _ _ => ?_) (fun E hp' zx _ _ => zx.elim)
              obtain ⟨rfl, hS60, fr60⟩ := hv
              obtain ⟨x60, ex60⟩ : ∃ x, x = (r_X7_find k9 (0 : Int32) S).2.2.2.2.2.2.2 := ⟨_, rfl⟩
              rw [← ex60] at hS60
              show qq_Go _ hp60 (250 * fu + bc + 247) (2750 * fu + bs + 2717) 161 [(0, .ref 84), (1, .long (((((((((((d9 * 31) + (((r_X7_kind k9 S).1).toInt64)) * 31) + (((r_X7_of k9 S).1).toInt64)) * 31) + ((1 : Int32).toInt64)) * 31) * 31) + (((r_X7_upper k9 S).1).toInt64)) * 31) + (((r_X7_lower k9 S).1).toInt64))), (3, .int k9)] [.int ((r_X7_find k9 (0 : Int32) S).1), .long ((((((((((((d9 * 31) + (((r_X7_kind k9 S).1).toInt64)) * 31) + (((r_X7_of k9 S).1).toInt64)) * 31) + ((1 : Int32).toInt64)) * 31) * 31) + (((r_X7_upper k9 S).1).toInt64)) * 31) + (((r_X7_lower k9 S).1).toInt64)) * 31)] _ _
              refine qq_i2l dX7_digest_161 ?_
              refine qq_ladd dX7_digest_162 ?_
              refine qq_ldc2 (v := 31) dX7_digest_163 kl_X7_271 ?_
              refine qq_lmul dX7_digest_166 ?_
              refine qq_aload_n dX7_digest_167 rfl 0 rfl ?_
              refine qq_iload_n dX7_digest_168 rfl 2 rfl ?_
              refine qq_iconst (v := 1) dX7_digest_169 (by decide) ?_
              refine qq_less (bc' := 250 * fu + bc + 247 + 0) (bs' := 2750 * fu + bs + 2717 + 0) (by omega) (by omega) ?_
              refine qq_callV (bc := 250 * fu + bc + 247) (bs := 2750 * fu + bs + 2717) (mc := 0) (ms := 0) (o := 84) (ci := 4) (N := 11) (T := TX7) (as := [.int k9, .int 1]) (rest := [.long ((((((((((((((d9 * 31) + (((r_X7_kind k9 S).1).toInt64)) * 31) + (((r_X7_of k9 S).1).toInt64)) * 31) + ((1 : Int32).toInt64)) * 31) * 31) + (((r_X7_upper k9 S).1).toInt64)) * 31) + (((r_X7_lower k9 S).1).toInt64)) * 31) + (((r_X7_find k9 (0 : Int32) S).1).toInt64)) * 31)]) dX7_digest_170 hS60.2.2.1 (by decide) rfl (mo_X7_find hp60 A x60 S hS60 k9 (1 : Int32) ) rfl kl_X7_294 kn_X7_find ke_X7_find ki_X7 kc_X7_find kd_X7_find rfl (by decide) (by decide) (Nat.le_of_ble_eq_true rfl) (fun v hp61 hv _ _ => ?_) (fun E hp' zx _ _ => zx.elim)
              obtain ⟨rfl, hS61, fr61⟩ := hv
              obtain ⟨x61, ex61⟩ : ∃ x, x = (r_X7_find k9 (1 : Int32) S).2.2.2.2.2.2.2 := ⟨_, rfl⟩
              rw [← ex61] at hS61
              show qq_Go _ hp61 (250 * fu + bc + 247) (2750 * fu + bs + 2717) 173 [(0, .ref 84), (1, .long (((((((((((d9 * 31) + (((r_X7_kind k9 S).1).toInt64)) * 31) + (((r_X7_of k9 S).1).toInt64)) * 31) + ((1 : Int32).toInt64)) * 31) * 31) + (((r_X7_upper k9 S).1).toInt64)) * 31) + (((r_X7_lower k9 S).1).toInt64))), (3, .int k9)] [.int ((r_X7_find k9 (1 : Int32) S).1), .long ((((((((((((((d9 * 31) + (((r_X7_kind k9 S).1).toInt64)) * 31) + (((r_X7_of k9 S).1).toInt64)) * 31) + ((1 : Int32).toInt64)) * 31) * 31) + (((r_X7_upper k9 S).1).toInt64)) * 31) + (((r_X7_lower k9 S).1).toInt64)) * 31) + (((r_X7_find k9 (0 : Int32) S).1).toInt64)) * 31)] _ _
              refine qq_i2l dX7_digest_173 ?_
              refine qq_ladd dX7_digest_174 ?_
              refine qq_lstore_n (loc' := [(0, .ref 84), (1, .long (((((((((((((((d9 * 31) + (((r_X7_kind k9 S).1).toInt64)) * 31) + (((r_X7_of k9 S).1).toInt64)) * 31) + ((1 : Int32).toInt64)) * 31) * 31) + (((r_X7_upper k9 S).1).toInt64)) * 31) + (((r_X7_lower k9 S).1).toInt64)) * 31) + (((r_X7_find k9 (0 : Int32) S).1).toInt64)) * 31) + (((r_X7_find k9 (1 : Int32) S).1).toInt64))), (3, .int k9)]) dX7_digest_175 rfl [1, 0, 2] (Nat.le_of_ble_eq_true rfl) rfl ?_
              refine qq_lload_n dX7_digest_176 rfl 1 rfl ?_
              refine qq_ldc2 (v := 31) dX7_digest_177 kl_X7_271 ?_
              refine qq_lmul dX7_digest_180 ?_
              refine qq_aload_n dX7_digest_181 rfl 0 rfl ?_
              refine qq_iload_n dX7_digest_182 rfl 2 rfl ?_
              refine qq_less (bc' := 250 * fu + bc + 193 + 54) (bs' := 2750 * fu + bs + 2123 + 594) (by omega) (by omega) ?_
              refine qq_callV (bc := 250 * fu + bc + 193) (bs := 2750 * fu + bs + 2123) (mc := 54) (ms := 594) (o := 84) (ci := 4) (N := 11) (T := TX7) (as := [.int k9]) (rest := [.long ((((((((((((((((d9 * 31) + (((r_X7_kind k9 S).1).toInt64)) * 31) + (((r_X7_of k9 S).1).toInt64)) * 31) + ((1 : Int32).toInt64)) * 31) * 31) + (((r_X7_upper k9 S).1).toInt64)) * 31) + (((r_X7_lower k9 S).1).toInt64)) * 31) + (((r_X7_find k9 (0 : Int32) S).1).toInt64)) * 31) + (((r_X7_find k9 (1 : Int32) S).1).toInt64)) * 31)]) dX7_digest_183 hS61.2.2.1 (by decide) rfl (mo_X7_rank hp61 A x61 S hS61 k9 zI) rfl kl_X7_298 kn_X7_rank ke_X7_rank ki_X7 kc_X7_rank kd_X7_rank rfl (by decide) (by decide) (Nat.le_of_ble_eq_true rfl) (fun v hp62 hv _ _ => ?_) (fun E hp' zx _ _ => zx.elim)
              obtain ⟨rfl, hS62, fr62⟩ := hv
              obtain ⟨x62, ex62⟩ : ∃ x, x = (r_X7_rank k9 S).2.2.2.2.2.2.2 := ⟨_, rfl⟩
              rw [← ex62] at hS62
              show qq_Go _ hp62 (250 * fu + bc + 193) (2750 * fu + bs + 2123) 186 [(0, .ref 84), (1, .long (((((((((((((((d9 * 31) + (((r_X7_kind k9 S).1).toInt64)) * 31) + (((r_X7_of k9 S).1).toInt64)) * 31) + ((1 : Int32).toInt64)) * 31) * 31) + (((r_X7_upper k9 S).1).toInt64)) * 31) + (((r_X7_lower k9 S).1).toInt64)) * 31) + (((r_X7_find k9 (0 : Int32) S).1).toInt64)) * 31) + (((r_X7_find k9 (1 : Int32) S).1).toInt64))), (3, .int k9)] [.int ((r_X7_rank k9 S).1), .long ((((((((((((((((d9 * 31) + (((r_X7_kind k9 S).1).toInt64)) * 31) + (((r_X7_of k9 S).1).toInt64)) * 31) + ((1 : Int32).toInt64)) * 31) * 31) + (((r_X7_upper k9 S).1).toInt64)) * 31) + (((r_X7_lower k9 S).1).toInt64)) * 31) + (((r_X7_find k9 (0 : Int32) S).1).toInt64)) * 31) + (((r_X7_find k9 (1 : Int32) S).1).toInt64)) * 31)] _ _
              refine qq_i2l dX7_digest_186 ?_
              refine qq_ladd dX7_digest_187 ?_
              refine qq_lstore_n (loc' := [(0, .ref 84), (1, .long (((((((((((((((((d9 * 31) + (((r_X7_kind k9 S).1).toInt64)) * 31) + (((r_X7_of k9 S).1).toInt64)) * 31) + ((1 : Int32).toInt64)) * 31) * 31) + (((r_X7_upper k9 S).1).toInt64)) * 31) + (((r_X7_lower k9 S).1).toInt64)) * 31) + (((r_X7_find k9 (0 : Int32) S).1).toInt64)) * 31) + (((r_X7_find k9 (1 : Int32) S).1).toInt64)) * 31) + (((r_X7_rank k9 S).1).toInt64))), (3, .int k9)]) dX7_digest_188 rfl [1, 0, 2] (Nat.le_of_ble_eq_true rfl) rfl ?_
              refine qq_iconst (v := 0) dX7_digest_189 (by decide) ?_
              refine qq_istore (loc' := [(0, .ref 84), (1, .long (((((((((((((((((d9 * 31) + (((r_X7_kind k9 S).1).toInt64)) * 31) + (((r_X7_of k9 S).1).toInt64)) * 31) + ((1 : Int32).toInt64)) * 31) * 31) + (((r_X7_upper k9 S).1).toInt64)) * 31) + (((r_X7_lower k9 S).1).toInt64)) * 31) + (((r_X7_find k9 (0 : Int32) S).1).toInt64)) * 31) + (((r_X7_find k9 (1 : Int32) S).1).toInt64)) * 31) + (((r_X7_rank k9 S).1).toInt64))), (3, .int k9), (4, .int 0)]) dX7_digest_190 [1, 2, 3, 0] (Nat.le_of_ble_eq_true rfl) rfl ?_
              refine qq_less (bc' := 250 * fu + bc + 13 + 180) (bs' := 2750 * fu + bs + 143 + 1980) (by omega) (by omega) ?_
              refine qq_less (bc' := 36 * 5 + (250 * fu + bc + 13)) (bs' := 396 * 5 + (2750 * fu + bs + 143)) (by omega) (by omega) ?_
              refine lq_X7_digest_192 k9 A S zI zH (qm_in8 zp zc1) 5 (((((((((((((((((d9 * 31) + (((r_X7_kind k9 S).1).toInt64)) * 31) + (((r_X7_of k9 S).1).toInt64)) * 31) + ((1 : Int32).toInt64)) * 31) * 31) + (((r_X7_upper k9 S).1).toInt64)) * 31) + (((r_X7_lower k9 S).1).toInt64)) * 31) + (((r_X7_find k9 (0 : Int32) S).1).toInt64)) * 31) + (((r_X7_find k9 (1 : Int32) S).1).toInt64)) * 31) + (((r_X7_rank k9 S).1).toInt64)) (0 : Int32) x62 hp62 hS62 (by decide) (250 * fu + bc + 13) (2750 * fu + bs + 143) (fun hp63 x63 hS63 fr63 => ?_)
              show qq_Go _ hp63 (250 * fu + bc + 13) (2750 * fu + bs + 143) 219 [(0, .ref 84), (1, .long ((lf_X7_digest_192 k9 5 (((((((((((((((((d9 * 31) + (((r_X7_kind k9 S).1).toInt64)) * 31) + (((r_X7_of k9 S).1).toInt64)) * 31) + ((1 : Int32).toInt64)) * 31) * 31) + (((r_X7_upper k9 S).1).toInt64)) * 31) + (((r_X7_lower k9 S).1).toInt64)) * 31) + (((r_X7_find k9 (0 : Int32) S).1).toInt64)) * 31) + (((r_X7_find k9 (1 : Int32) S).1).toInt64)) * 31) + (((r_X7_rank k9 S).1).toInt64)) (0 : Int32) S).1)), (3, .int k9)] [] _ _
              refine qq_iinc (v := k9 + 1) (loc' := [(0, .ref 84), (1, .long ((lf_X7_digest_192 k9 5 (((((((((((((((((d9 * 31) + (((r_X7_kind k9 S).1).toInt64)) * 31) + (((r_X7_of k9 S).1).toInt64)) * 31) + ((1 : Int32).toInt64)) * 31) * 31) + (((r_X7_upper k9 S).1).toInt64)) * 31) + (((r_X7_lower k9 S).1).toInt64)) * 31) + (((r_X7_find k9 (0 : Int32) S).1).toInt64)) * 31) + (((r_X7_find k9 (1 : Int32) S).1).toInt64)) * 31) + (((r_X7_rank k9 S).1).toInt64)) (0 : Int32) S).1)), (3, .int (k9 + 1))]) dX7_digest_219 2 rfl rfl [1, 2, 0] (Nat.le_of_ble_eq_true rfl) rfl ?_
              refine qq_goto (tgt := 6) dX7_digest_222 (by decide) ?_
              have ze : lf_X7_digest_6 (fu + 1) d9 k9 S = lf_X7_digest_6 fu ((lf_X7_digest_192 k9 5 (((((((((((((((((d9 * 31) + (((r_X7_kind k9 S).1).toInt64)) * 31) + (((r_X7_of k9 S).1).toInt64)) * 31) + ((1 : Int32).toInt64)) * 31) * 31) + (((r_X7_upper k9 S).1).toInt64)) * 31) + (((r_X7_lower k9 S).1).toInt64)) * 31) + (((r_X7_find k9 (0 : Int32) S).1).toInt64)) * 31) + (((r_X7_find k9 (1 : Int32) S).1).toInt64)) * 31) + (((r_X7_rank k9 S).1).toInt64)) (0 : Int32) S).1) (k9 + 1) S := by
                rw [lf_X7_digest_6, if_neg zc1, if_neg zc2, if_pos zc8, if_neg zc10, if_pos zc12]
              rw [ze] at hk
              refine qq_less (bc' := 250 * fu + bc) (bs' := 2750 * fu + bs) (by omega) (by omega) ?_
              exact lqih ((lf_X7_digest_192 k9 5 (((((((((((((((((d9 * 31) + (((r_X7_kind k9 S).1).toInt64)) * 31) + (((r_X7_of k9 S).1).toInt64)) * 31) + ((1 : Int32).toInt64)) * 31) * 31) + (((r_X7_upper k9 S).1).toInt64)) * 31) + (((r_X7_lower k9 S).1).toInt64)) * 31) + (((r_X7_find k9 (0 : Int32) S).1).toInt64)) * 31) + (((r_X7_find k9 (1 : Int32) S).1).toInt64)) * 31) + (((r_X7_rank k9 S).1).toInt64)) (0 : Int32) S).1) (k9 + 1) x63 hp63 hS63 (qm_pos zp zc1) (qm_up zc1 zh) bc bs (fun hq x8 h1 h2 => hk hq x8 h1 (fr_t (fr_t (fr_t (fr_t (fr_t (fr_t (fr_t (fr_t (fr_t fr1 fr2) fr3) fr58) fr59) fr60) fr61) fr62) fr63) h2))
            · refine qq_lload_n dX7_digest_118 rfl 1 rfl ?_
              refine qq_ldc2 (v := 31) dX7_digest_119 kl_X7_271 ?_
              refine qq_lmul dX7_digest_122 ?_
              refine qq_goto (tgt := 149) dX7_digest_123 (by decide) ?_
              refine qq_lstore_n (loc' := [(0, .ref 84), (1, .long ((((((((d9 * 31) + (((r_X7_kind k9 S).1).toInt64)) * 31) + (((r_X7_of k9 S).1).toInt64)) * 31) + ((1 : Int32).toInt64)) * 31) * 31)), (3, .int k9)]) dX7_digest_149 rfl [1, 0, 2] (Nat.le_of_ble_eq_true rfl) rfl ?_
              refine qq_lload_n dX7_digest_150 rfl 1 rfl ?_
              refine qq_ldc2 (v := 31) dX7_digest_151 kl_X7_271 ?_
              refine qq_lmul dX7_digest_154 ?_
              refine qq_aload_n dX7_digest_155 rfl 0 rfl ?_
              refine qq_iload_n dX7_digest_156 rfl 2 rfl ?_
              refine qq_iconst (v := 0) dX7_digest_157 (by decide) ?_
              refine qq_less (bc' := 250 * fu + bc + 247 + 0) (bs' := 2750 * fu + bs + 2717 + 0) (by omega) (by omega) ?_
              refine qq_callV (bc := 250 * fu + bc + 247) (bs := 2750 * fu + bs + 2717) (mc := 0) (ms := 0) (o := 84) (ci := 4) (N := 11) (T := TX7) (as := [.int k9, .int 0]) (rest := [.long (((((((((d9 * 31) + (((r_X7_kind k9 S).1).toInt64)) * 31) + (((r_X7_of k9 S).1).toInt64)) * 31) + ((1 : Int32).toInt64)) * 31) * 31) * 31)]) dX7_digest_158 hS3.2.2.1 (by decide) rfl (mo_X7_find hp3 A x3 S hS3 k9 (0 : Int32) ) rfl kl_X7_294 kn_X7_find ke_X7_find ki_X7 kc_X7_find kd_X7_find rfl (by decide) (by decide) (Nat.le_of_ble_eq_true rfl) (fun v hp64 hv _ _ => ?_) (fun E hp' zx _ _ => zx.elim)
              obtain ⟨rfl, hS64, fr64⟩ := hv
              obtain ⟨x64, ex64⟩ : ∃ x, x = (r_X7_find k9 (0 : Int32) S).2.2.2.2.2.2.2 := ⟨_, rfl⟩
              rw [← ex64] at hS64
              show qq_Go _ hp64 (250 * fu + bc + 247) (2750 * fu + bs + 2717) 161 [(0, .ref 84), (1, .long ((((((((d9 * 31) + (((r_X7_kind k9 S).1).toInt64)) * 31) + (((r_X7_of k9 S).1).toInt64)) * 31) + ((1 : Int32).toInt64)) * 31) * 31)), (3, .int k9)] [.int ((r_X7_find k9 (0 : Int32) S).1), .long (((((((((d9 * 31) + (((r_X7_kind k9 S).1).toInt64)) * 31) + (((r_X7_of k9 S).1).toInt64)) * 31) + ((1 : Int32).toInt64)) * 31) * 31) * 31)] _ _
              refine qq_i2l dX7_digest_161 ?_
              refine qq_ladd dX7_digest_162 ?_
              refine qq_ldc2 (v := 31) dX7_digest_163 kl_X7_271 ?_
              refine qq_lmul dX7_digest_166 ?_
              refine qq_aload_n dX7_digest_167 rfl 0 rfl ?_
              refine qq_iload_n dX7_digest_168 rfl 2 rfl ?_
              refine qq_iconst (v := 1) dX7_digest_169 (by decide) ?_
              refine qq_less (bc' := 250 * fu + bc + 247 + 0) (bs' := 2750 * fu + bs + 2717 + 0) (by omega) (by omega) ?_
              refine qq_callV (bc := 250 * fu + bc + 247) (bs := 2750 * fu + bs + 2717) (mc := 0) (ms := 0) (o := 84) (ci := 4) (N := 11) (T := TX7) (as := [.int k9, .int 1]) (rest := [.long (((((((((((d9 * 31) + (((r_X7_kind k9 S).1).toInt64)) * 31) + (((r_X7_of k9 S).1).toInt64)) * 31) + ((1 : Int32).toInt64)) * 31) * 31) * 31) + (((r_X7_find k9 (0 : Int32) S).1).toInt64)) * 31)]) dX7_digest_170 hS64.2.2.1 (by decide) rfl (mo_X7_find hp64 A x64 S hS64 k9 (1 : Int32) ) rfl kl_X7_294 kn_X7_find ke_X7_find ki_X7 kc_X7_find kd_X7_find rfl (by decide) (by decide) (Nat.le_of_ble_eq_true rfl) (fun v hp65 hv _ _ => ?_) (fun E hp' zx _ _ => zx.elim)
              obtain ⟨rfl, hS65, fr65⟩ := hv
              obtain ⟨x65, ex65⟩ : ∃ x, x = (r_X7_find k9 (1 : Int32) S).2.2.2.2.2.2.2 := ⟨_, rfl⟩
              rw [← ex65] at hS65
              show qq_Go _ hp65 (250 * fu + bc + 247) (2750 * fu + bs + 2717) 173 [(0, .ref 84), (1, .long ((((((((d9 * 31) + (((r_X7_kind k9 S).1).toInt64)) * 31) + (((r_X7_of k9 S).1).toInt64)) * 31) + ((1 : Int32).toInt64)) * 31) * 31)), (3, .int k9)] [.int ((r_X7_find k9 (1 : Int32) S).1), .long (((((((((((d9 * 31) + (((r_X7_kind k9 S).1).toInt64)) * 31) + (((r_X7_of k9 S).1).toInt64)) * 31) + ((1 : Int32).toInt64)) * 31) * 31) * 31) + (((r_X7_find k9 (0 : Int32) S).1).toInt64)) * 31)] _ _
              refine qq_i2l dX7_digest_173 ?_
              refine qq_ladd dX7_digest_174 ?_
              refine qq_lstore_n (loc' := [(0, .ref 84), (1, .long ((((((((((((d9 * 31) + (((r_X7_kind k9 S).1).toInt64)) * 31) + (((r_X7_of k9 S).1).toInt64)) * 31) + ((1 : Int32).toInt64)) * 31) * 31) * 31) + (((r_X7_find k9 (0 : Int32) S).1).toInt64)) * 31) + (((r_X7_find k9 (1 : Int32) S).1).toInt64))), (3, .int k9)]) dX7_digest_175 rfl [1, 0, 2] (Nat.le_of_ble_eq_true rfl) rfl ?_
              refine qq_lload_n dX7_digest_176 rfl 1 rfl ?_
              refine qq_ldc2 (v := 31) dX7_digest_177 kl_X7_271 ?_
              refine qq_lmul dX7_digest_180 ?_
              refine qq_aload_n dX7_digest_181 rfl 0 rfl ?_
              refine qq_iload_n dX7_digest_182 rfl 2 rfl ?_
              refine qq_less (bc' := 250 * fu + bc + 193 + 54) (bs' := 2750 * fu + bs + 2123 + 594) (by omega) (by omega) ?_
              refine qq_callV (bc := 250 * fu + bc + 193) (bs := 2750 * fu + bs + 2123) (mc := 54) (ms := 594) (o := 84) (ci := 4) (N := 11) (T := TX7) (as := [.int k9]) (rest := [.long (((((((((((((d9 * 31) + (((r_X7_kind k9 S).1).toInt64)) * 31) + (((r_X7_of k9 S).1).toInt64)) * 31) + ((1 : Int32).toInt64)) * 31) * 31) * 31) + (((r_X7_find k9 (0 : Int32) S).1).toInt64)) * 31) + (((r_X7_find k9 (1 : Int32) S).1).toInt64)) * 31)]) dX7_digest_183 hS65.2.2.1 (by decide) rfl (mo_X7_rank hp65 A x65 S hS65 k9 zI) rfl kl_X7_298 kn_X7_rank ke_X7_rank ki_X7 kc_X7_rank kd_X7_rank rfl (by decide) (by decide) (Nat.le_of_ble_eq_true rfl) (fun v hp66 hv _ _ => ?_) (fun E hp' zx _ _ => zx.elim)
              obtain ⟨rfl, hS66, fr66⟩ := hv
              obtain ⟨x66, ex66⟩ : ∃ x, x = (r_X7_rank k9 S).2.2.2.2.2.2.2 := ⟨_, rfl⟩
              rw [← ex66] at hS66
              show qq_Go _ hp66 (250 * fu + bc + 193) (2750 * fu + bs + 2123) 186 [(0, .ref 84), (1, .long ((((((((((((d9 * 31) + (((r_X7_kind k9 S).1).toInt64)) * 31) + (((r_X7_of k9 S).1).toInt64)) * 31) + ((1 : Int32).toInt64)) * 31) * 31) * 31) + (((r_X7_find k9 (0 : Int32) S).1).toInt64)) * 31) + (((r_X7_find k9 (1 : Int32) S).1).toInt64))), (3, .int k9)] [.int ((r_X7_rank k9 S).1), .long (((((((((((((d9 * 31) + (((r_X7_kind k9 S).1).toInt64)) * 31) + (((r_X7_of k9 S).1).toInt64)) * 31) + ((1 : Int32).toInt64)) * 31) * 31) * 31) + (((r_X7_find k9 (0 : Int32) S).1).toInt64)) * 31) + (((r_X7_find k9 (1 : Int32) S).1).toInt64)) * 31)] _ _
              refine qq_i2l dX7_digest_186 ?_
              refine qq_ladd dX7_digest_187 ?_
              refine qq_lstore_n (loc' := [(0, .ref 84), (1, .long ((((((((((((((d9 * 31) + (((r_X7_kind k9 S).1).toInt64)) * 31) + (((r_X7_of k9 S).1).toInt64)) * 31) + ((1 : Int32).toInt64)) * 31) * 31) * 31) + (((r_X7_find k9 (0 : Int32) S).1).toInt64)) * 31) + (((r_X7_find k9 (1 : Int32) S).1).toInt64)) * 31) + (((r_X7_rank k9 S).1).toInt64))), (3, .int k9)]) dX7_digest_188 rfl [1, 0, 2] (Nat.le_of_ble_eq_true rfl) rfl ?_
              refine qq_iconst (v := 0) dX7_digest_189 (by decide) ?_
              refine qq_istore (loc' := [(0, .ref 84), (1, .long ((((((((((((((d9 * 31) + (((r_X7_kind k9 S).1).toInt64)) * 31) + (((r_X7_of k9 S).1).toInt64)) * 31) + ((1 : Int32).toInt64)) * 31) * 31) * 31) + (((r_X7_find k9 (0 : Int32) S).1).toInt64)) * 31) + (((r_X7_find k9 (1 : Int32) S).1).toInt64)) * 31) + (((r_X7_rank k9 S).1).toInt64))), (3, .int k9), (4, .int 0)]) dX7_digest_190 [1, 2, 3, 0] (Nat.le_of_ble_eq_true rfl) rfl ?_
              refine qq_less (bc' := 250 * fu + bc + 13 + 180) (bs' := 2750 * fu + bs + 143 + 1980) (by omega) (by omega) ?_
              refine qq_less (bc' := 36 * 5 + (250 * fu + bc + 13)) (bs' := 396 * 5 + (2750 * fu + bs + 143)) (by omega) (by omega) ?_
              refine lq_X7_digest_192 k9 A S zI zH (qm_in8 zp zc1) 5 ((((((((((((((d9 * 31) + (((r_X7_kind k9 S).1).toInt64)) * 31) + (((r_X7_of k9 S).1).toInt64)) * 31) + ((1 : Int32).toInt64)) * 31) * 31) * 31) + (((r_X7_find k9 (0 : Int32) S).1).toInt64)) * 31) + (((r_X7_find k9 (1 : Int32) S).1).toInt64)) * 31) + (((r_X7_rank k9 S).1).toInt64)) (0 : Int32) x66 hp66 hS66 (by decide) (250 * fu + bc + 13) (2750 * fu + bs + 143) (fun hp67 x67 hS67 fr67 => ?_)
              show qq_Go _ hp67 (250 * fu + bc + 13) (2750 * fu + bs + 143) 219 [(0, .ref 84), (1, .long ((lf_X7_digest_192 k9 5 ((((((((((((((d9 * 31) + (((r_X7_kind k9 S).1).toInt64)) * 31) + (((r_X7_of k9 S).1).toInt64)) * 31) + ((1 : Int32).toInt64)) * 31) * 31) * 31) + (((r_X7_find k9 (0 : Int32) S).1).toInt64)) * 31) + (((r_X7_find k9 (1 : Int32) S).1).toInt64)) * 31) + (((r_X7_rank k9 S).1).toInt64)) (0 : Int32) S).1)), (3, .int k9)] [] _ _
              refine qq_iinc (v := k9 + 1) (loc' := [(0, .ref 84), (1, .long ((lf_X7_digest_192 k9 5 ((((((((((((((d9 * 31) + (((r_X7_kind k9 S).1).toInt64)) * 31) + (((r_X7_of k9 S).1).toInt64)) * 31) + ((1 : Int32).toInt64)) * 31) * 31) * 31) + (((r_X7_find k9 (0 : Int32) S).1).toInt64)) * 31) + (((r_X7_find k9 (1 : Int32) S).1).toInt64)) * 31) + (((r_X7_rank k9 S).1).toInt64)) (0 : Int32) S).1)), (3, .int (k9 + 1))]) dX7_digest_219 2 rfl rfl [1, 2, 0] (Nat.le_of_ble_eq_true rfl) rfl ?_
              refine qq_goto (tgt := 6) dX7_digest_222 (by decide) ?_
              have ze : lf_X7_digest_6 (fu + 1) d9 k9 S = lf_X7_digest_6 fu ((lf_X7_digest_192 k9 5 ((((((((((((((d9 * 31) + (((r_X7_kind k9 S).1).toInt64)) * 31) + (((r_X7_of k9 S).1).toInt64)) * 31) + ((1 : Int32).toInt64)) * 31) * 31) * 31) + (((r_X7_find k9 (0 : Int32) S).1).toInt64)) * 31) + (((r_X7_find k9 (1 : Int32) S).1).toInt64)) * 31) + (((r_X7_rank k9 S).1).toInt64)) (0 : Int32) S).1) (k9 + 1) S := by
                rw [lf_X7_digest_6, if_neg zc1, if_neg zc2, if_pos zc8, if_neg zc10, if_neg zc12]
              rw [ze] at hk
              refine qq_less (bc' := 250 * fu + bc) (bs' := 2750 * fu + bs) (by omega) (by omega) ?_
              exact lqih ((lf_X7_digest_192 k9 5 ((((((((((((((d9 * 31) + (((r_X7_kind k9 S).1).toInt64)) * 31) + (((r_X7_of k9 S).1).toInt64)) * 31) + ((1 : Int32).toInt64)) * 31) * 31) * 31) + (((r_X7_find k9 (0 : Int32) S).1).toInt64)) * 31) + (((r_X7_find k9 (1 : Int32) S).1).toInt64)) * 31) + (((r_X7_rank k9 S).1).toInt64)) (0 : Int32) S).1) (k9 + 1) x67 hp67 hS67 (qm_pos zp zc1) (qm_up zc1 zh) bc bs (fun hq x8 h1 h2 => hk hq x8 h1 (fr_t (fr_t (fr_t (fr_t (fr_t (fr_t (fr_t fr1 fr2) fr3) fr64) fr65) fr66) fr67) h2))
def lf_X7_digest_238 (k9 : Int32)  : Nat → Int64 → Int32 → sM → Int64 × Int32
  | 0, d9, n9, S => (d9, n9)
  | fu + 1, d9, n9, S => if 8 ≤ n9 then (d9, n9) else lf_X7_digest_238 k9 fu ((d9 * 31) + (((r_X7_order k9 n9 S).1).toInt64)) (n9 + 1) S
set_option maxRecDepth 4000 in
theorem lq_X7_digest_238 (k9 : Int32) (A : qA) (S : sM)  (zI : IM S) (zH : IH S) (zk9 : vp_in k9 8) {P : Option Value → qq_H → Prop} {PX : String → qq_H → Prop} : ∀ (fu : Nat) (d9 : Int64) (n9 : Int32) (x9 : Int32) (hp : qq_H) , ms_M A (th x9 S) hp → ((8 : Int32).toInt - n9.toInt).toNat < fu → ∀ (bc bs : Nat), (∀ (hp' : qq_H) (x8 : Int32), ms_M A (th x8 S) hp' → fr A hp hp' → qq_Go mX7_digest hp' bc bs 266 [(0, .ref 84), (1, .long ((lf_X7_digest_238 k9 fu d9 n9 S).1)), (3, .int k9)] [] P PX) → qq_Go mX7_digest hp (6 * fu + bc) (66 * fu + bs) 238 [(0, .ref 84), (1, .long d9), (3, .int k9), (4, .int n9)] [] P PX := by
  intro fu
  induction fu with
  | zero => intro d9 n9 x9 hp hS zz; exact absurd zz (Nat.not_lt_zero _)
  | succ fu lqih =>
    intro d9 n9 x9 hp hS zh bc bs hk
    refine qq_iload dX7_digest_238 3 rfl ?_
    refine qq_bipush (v := 8) dX7_digest_240 (by decide) ?_
    refine qq_icmp_ge (tgt := 266) dX7_digest_242 (by decide) (fun zc1 => ?_) (fun zc1 => ?_)
    · have ze : lf_X7_digest_238 k9 (fu + 1) d9 n9 S = (d9, n9) := by
        rw [lf_X7_digest_238, if_pos zc1]
      rw [ze] at hk
      refine qq_loc [0, 1, 2] rfl ?_
      refine qq_less (bc' := bc) (bs' := bs) (by omega) (by omega) ?_
      exact hk hp x9 hS (fr_r _ _)
    · refine qq_lload_n dX7_digest_245 rfl 1 rfl ?_
      refine qq_ldc2 (v := 31) dX7_digest_246 kl_X7_271 ?_
      refine qq_lmul dX7_digest_249 ?_
      refine qq_aload_n dX7_digest_250 rfl 0 rfl ?_
      refine qq_iload_n dX7_digest_251 rfl 2 rfl ?_
      refine qq_iload dX7_digest_252 3 rfl ?_
      refine qq_less (bc' := 6 * fu + bc + 6) (bs' := 66 * fu + bs + 66) (by omega) (by omega) ?_
      refine qq_callV (bc := 6 * fu + bc) (bs := 66 * fu + bs) (mc := 6) (ms := 66) (o := 84) (ci := 4) (N := 11) (T := TX7) (as := [.int k9, .int n9]) (rest := [.long (d9 * 31)]) dX7_digest_254 hS.2.2.1 (by decide) rfl (mo_X7_order hp A x9 S hS k9 n9 zI) rfl kl_X7_304 kn_X7_order ke_X7_order ki_X7 kc_X7_order kd_X7_order rfl (by decide) (by decide) (Nat.le_of_ble_eq_true rfl) (fun v hp1 hv _ _ => ?_) (fun E hp' zx _ _ => zx.elim)
      obtain ⟨rfl, hS1, fr1⟩ := hv
      obtain ⟨x1, ex1⟩ : ∃ x, x = (r_X7_order k9 n9 S).2.2.2.2.2.2.2 := ⟨_, rfl⟩
      rw [← ex1] at hS1
      show qq_Go _ hp1 (6 * fu + bc) (66 * fu + bs) 257 [(0, .ref 84), (1, .long d9), (3, .int k9), (4, .int n9)] [.int ((r_X7_order k9 n9 S).1), .long (d9 * 31)] _ _
      refine qq_i2l dX7_digest_257 ?_
      refine qq_ladd dX7_digest_258 ?_
      refine qq_lstore_n (loc' := [(0, .ref 84), (1, .long ((d9 * 31) + (((r_X7_order k9 n9 S).1).toInt64))), (3, .int k9), (4, .int n9)]) dX7_digest_259 rfl [1, 0, 2, 3] (Nat.le_of_ble_eq_true rfl) rfl ?_
      refine qq_iinc (v := n9 + 1) (loc' := [(0, .ref 84), (1, .long ((d9 * 31) + (((r_X7_order k9 n9 S).1).toInt64))), (3, .int k9), (4, .int (n9 + 1))]) dX7_digest_260 3 rfl rfl [1, 2, 3, 0] (Nat.le_of_ble_eq_true rfl) rfl ?_
      refine qq_goto (tgt := 238) dX7_digest_263 (by decide) ?_
      have ze : lf_X7_digest_238 k9 (fu + 1) d9 n9 S = lf_X7_digest_238 k9 fu ((d9 * 31) + (((r_X7_order k9 n9 S).1).toInt64)) (n9 + 1) S := by
        rw [lf_X7_digest_238, if_neg zc1]
      rw [ze] at hk
      refine qq_less (bc' := 6 * fu + bc) (bs' := 66 * fu + bs) (by omega) (by omega) ?_
      exact lqih ((d9 * 31) + (((r_X7_order k9 n9 S).1).toInt64)) (n9 + 1) x1 hp1 hS1 (qm_up zc1 zh) bc bs (fun hq x8 h1 h2 => hk hq x8 h1 (fr_t fr1 h2))
def lf_X7_digest_227   : Nat → Int64 → Int32 → sM → Int64 × Int32
  | 0, d9, k9, S => (d9, k9)
  | fu + 1, d9, k9, S => if 8 ≤ k9 then (d9, k9) else lf_X7_digest_227 fu ((lf_X7_digest_238 k9 9 d9 (k9 + 1) S).1) (k9 + 1) S
set_option maxRecDepth 4000 in
theorem lq_X7_digest_227  (A : qA) (S : sM)  (zI : IM S) (zH : IH S) {P : Option Value → qq_H → Prop} {PX : String → qq_H → Prop} : ∀ (fu : Nat) (d9 : Int64) (k9 : Int32) (x9 : Int32) (hp : qq_H) , ms_M A (th x9 S) hp → ¬ k9 < 0 → ((8 : Int32).toInt - k9.toInt).toNat < fu → ∀ (bc bs : Nat), (∀ (hp' : qq_H) (x8 : Int32), ms_M A (th x8 S) hp' → fr A hp hp' → qq_Go mX7_digest hp' bc bs 272 [(0, .ref 84), (1, .long ((lf_X7_digest_227 fu d9 k9 S).1))] [] P PX) → qq_Go mX7_digest hp (54 * fu + bc) (594 * fu + bs) 227 [(0, .ref 84), (1, .long d9), (3, .int k9)] [] P PX := by
  intro fu
  induction fu with
  | zero => intro d9 k9 x9 hp hS zp zz; exact absurd zz (Nat.not_lt_zero _)
  | succ fu lqih =>
    intro d9 k9 x9 hp hS zp zh bc bs hk
    refine qq_iload_n dX7_digest_227 rfl 2 rfl ?_
    refine qq_bipush (v := 8) dX7_digest_228 (by decide) ?_
    refine qq_icmp_ge (tgt := 272) dX7_digest_230 (by decide) (fun zc1 => ?_) (fun zc1 => ?_)
    · have ze : lf_X7_digest_227 (fu + 1) d9 k9 S = (d9, k9) := by
        rw [lf_X7_digest_227, if_pos zc1]
      rw [ze] at hk
      refine qq_loc [0, 1] rfl ?_
      refine qq_less (bc' := bc) (bs' := bs) (by omega) (by omega) ?_
      exact hk hp x9 hS (fr_r _ _)
    · refine qq_iload_n dX7_digest_233 rfl 2 rfl ?_
      refine qq_iconst (v := 1) dX7_digest_234 (by decide) ?_
      refine qq_iadd dX7_digest_235 ?_
      refine qq_istore (loc' := [(0, .ref 84), (1, .long d9), (3, .int k9), (4, .int (k9 + 1))]) dX7_digest_236 [1, 2, 3, 0] (Nat.le_of_ble_eq_true rfl) rfl ?_
      refine qq_less (bc' := 54 * fu + bc + 54) (bs' := 594 * fu + bs + 594) (by omega) (by omega) ?_
      refine qq_less (bc' := 6 * 9 + (54 * fu + bc)) (bs' := 66 * 9 + (594 * fu + bs)) (by omega) (by omega) ?_
      refine lq_X7_digest_238 k9 A S zI zH (qm_in8 zp zc1) 9 d9 (k9 + 1) x9 hp hS (dg_f (qm_in8 zp zc1)) (54 * fu + bc) (594 * fu + bs) (fun hp1 x1 hS1 fr1 => ?_)
      show qq_Go _ hp1 (54 * fu + bc) (594 * fu + bs) 266 [(0, .ref 84), (1, .long ((lf_X7_digest_238 k9 9 d9 (k9 + 1) S).1)), (3, .int k9)] [] _ _
      refine qq_iinc (v := k9 + 1) (loc' := [(0, .ref 84), (1, .long ((lf_X7_digest_238 k9 9 d9 (k9 + 1) S).1)), (3, .int (k9 + 1))]) dX7_digest_266 2 rfl rfl [1, 2, 0] (Nat.le_of_ble_eq_true rfl) rfl ?_
      refine qq_goto (tgt := 227) dX7_digest_269 (by decide) ?_
      have ze : lf_X7_digest_227 (fu + 1) d9 k9 S = lf_X7_digest_227 fu ((lf_X7_digest_238 k9 9 d9 (k9 + 1) S).1) (k9 + 1) S := by
        rw [lf_X7_digest_227, if_neg zc1]
      rw [ze] at hk
      refine qq_less (bc' := 54 * fu + bc) (bs' := 594 * fu + bs) (by omega) (by omega) ?_
      exact lqih ((lf_X7_digest_238 k9 9 d9 (k9 + 1) S).1) (k9 + 1) x1 hp1 hS1 (qm_pos zp zc1) (qm_up zc1 zh) bc bs (fun hq x8 h1 h2 => hk hq x8 h1 (fr_t fr1 h2))
def lf_X7_digest_274   : Nat → Int64 → Int32 → sM → Int64 × Int32
  | 0, d9, w9, S => (d9, w9)
  | fu + 1, d9, w9, S => if 5 ≤ w9 then (d9, w9) else lf_X7_digest_274 fu ((d9 * 31) + (((r_X7_house w9 S).1).toInt64)) (w9 + 1) S
set_option maxRecDepth 4000 in
theorem lq_X7_digest_274  (A : qA) (S : sM)   {P : Option Value → qq_H → Prop} {PX : String → qq_H → Prop} : ∀ (fu : Nat) (d9 : Int64) (w9 : Int32) (x9 : Int32) (hp : qq_H) , ms_M A (th x9 S) hp → ((5 : Int32).toInt - w9.toInt).toNat < fu → ∀ (bc bs : Nat), (∀ (hp' : qq_H) (x8 : Int32), ms_M A (th x8 S) hp' → fr A hp hp' → qq_Go mX7_digest hp' bc bs 298 [(0, .ref 84), (1, .long ((lf_X7_digest_274 fu d9 w9 S).1))] [] P PX) → qq_Go mX7_digest hp (0 * fu + bc) (0 * fu + bs) 274 [(0, .ref 84), (1, .long d9), (3, .int w9)] [] P PX := by
  intro fu
  induction fu with
  | zero => intro d9 w9 x9 hp hS zz; exact absurd zz (Nat.not_lt_zero _)
  | succ fu lqih =>
    intro d9 w9 x9 hp hS zh bc bs hk
    refine qq_iload_n dX7_digest_274 rfl 2 rfl ?_
    refine qq_iconst (v := 5) dX7_digest_275 (by decide) ?_
    refine qq_icmp_ge (tgt := 298) dX7_digest_276 (by decide) (fun zc1 => ?_) (fun zc1 => ?_)
    · have ze : lf_X7_digest_274 (fu + 1) d9 w9 S = (d9, w9) := by
        rw [lf_X7_digest_274, if_pos zc1]
      rw [ze] at hk
      refine qq_loc [0, 1] rfl ?_
      refine qq_less (bc' := bc) (bs' := bs) (by omega) (by omega) ?_
      exact hk hp x9 hS (fr_r _ _)
    · refine qq_lload_n dX7_digest_279 rfl 1 rfl ?_
      refine qq_ldc2 (v := 31) dX7_digest_280 kl_X7_271 ?_
      refine qq_lmul dX7_digest_283 ?_
      refine qq_aload_n dX7_digest_284 rfl 0 rfl ?_
      refine qq_iload_n dX7_digest_285 rfl 2 rfl ?_
      refine qq_less (bc' := bc + 0) (bs' := bs + 0) (by omega) (by omega) ?_
      refine qq_callV (bc := bc) (bs := bs) (mc := 0) (ms := 0) (o := 84) (ci := 4) (N := 11) (T := TX7) (as := [.int w9]) (rest := [.long (d9 * 31)]) dX7_digest_286 hS.2.2.1 (by decide) rfl (mo_X7_house hp A x9 S hS w9 ) rfl kl_X7_307 kn_X7_house ke_X7_house ki_X7 kc_X7_house kd_X7_house rfl (by decide) (by decide) (Nat.le_of_ble_eq_true rfl) (fun v hp1 hv _ _ => ?_) (fun E hp' zx _ _ => zx.elim)
      obtain ⟨rfl, hS1, fr1⟩ := hv
      obtain ⟨x1, ex1⟩ : ∃ x, x = (r_X7_house w9 S).2.2.2.2.2.2.2 := ⟨_, rfl⟩
      rw [← ex1] at hS1
      show qq_Go _ hp1 (bc) (bs) 289 [(0, .ref 84), (1, .long d9), (3, .int w9)] [.int ((r_X7_house w9 S).1), .long (d9 * 31)] _ _
      refine qq_i2l dX7_digest_289 ?_
      refine qq_ladd dX7_digest_290 ?_
      refine qq_lstore_n (loc' := [(0, .ref 84), (1, .long ((d9 * 31) + (((r_X7_house w9 S).1).toInt64))), (3, .int w9)]) dX7_digest_291 rfl [1, 0, 2] (Nat.le_of_ble_eq_true rfl) rfl ?_
      refine qq_iinc (v := w9 + 1) (loc' := [(0, .ref 84), (1, .long ((d9 * 31) + (((r_X7_house w9 S).1).toInt64))), (3, .int (w9 + 1))]) dX7_digest_292 2 rfl rfl [1, 2, 0] (Nat.le_of_ble_eq_true rfl) rfl ?_
      refine qq_goto (tgt := 274) dX7_digest_295 (by decide) ?_
      have ze : lf_X7_digest_274 (fu + 1) d9 w9 S = lf_X7_digest_274 fu ((d9 * 31) + (((r_X7_house w9 S).1).toInt64)) (w9 + 1) S := by
        rw [lf_X7_digest_274, if_neg zc1]
      rw [ze] at hk
      refine qq_less (bc' := 0 * fu + bc) (bs' := 0 * fu + bs) (by omega) (by omega) ?_
      exact lqih ((d9 * 31) + (((r_X7_house w9 S).1).toInt64)) (w9 + 1) x1 hp1 hS1 (qm_up zc1 zh) bc bs (fun hq x8 h1 h2 => hk hq x8 h1 (fr_t fr1 h2))
def r_X7_digest   (S : sM) : Int64 × sM := ((((lf_X7_digest_274 6 ((lf_X7_digest_227 9 ((lf_X7_digest_6 9 (7896 : Int64) (0 : Int32) S).1) (0 : Int32) S).1) (0 : Int32) S).1) * 31) + 1, (S.1, S.2.1, S.2.2.1, S.2.2.2.1, S.2.2.2.2.1, S.2.2.2.2.2.1, 0))
set_option maxRecDepth 4000 in
theorem mt_X7_digest (hp : qq_H) (A : qA) (S : sM) (hS : ms_M A S hp)      (zI : IM S) (zH : IH S) : qq_Mt mX7_digest [.ref 84] hp 3000 33000 (fun v hp' => v = some (.long ((r_X7_digest S).1)) ∧ ms_M A ((r_X7_digest S).2) hp' ∧ fr A hp hp') (fun _ _ => False) := by
  refine qq_met pn_X7 (Nat.le_of_ble_eq_true rfl) (Nat.le_of_ble_eq_true rfl) kc_X7_digest ?_
  show qq_Go _ hp 3000 33000 0 [(0, .ref 84)] [] _ _
  refine qq_ldc2 (v := 7896) dX7_digest_0 kl_X7_269 ?_
  refine qq_lstore_n (loc' := [(0, .ref 84), (1, .long 7896)]) dX7_digest_3 rfl [1, 0] (Nat.le_of_ble_eq_true rfl) rfl ?_
  refine qq_iconst (v := 0) dX7_digest_4 (by decide) ?_
  refine qq_istore_n (loc' := [(0, .ref 84), (1, .long 7896), (3, .int 0)]) dX7_digest_5 rfl [1, 2, 0] (Nat.le_of_ble_eq_true rfl) rfl ?_
  refine qq_less (bc' := 750 + 2250) (bs' := 8250 + 24750) (by omega) (by omega) ?_
  refine qq_less (bc' := 250 * 9 + (750)) (bs' := 2750 * 9 + (8250)) (by omega) (by omega) ?_
  refine lq_X7_digest_6 A S zI zH 9 (7896 : Int64) (0 : Int32) S.2.2.2.2.2.2 hp hS (by decide) (by decide) (750) (8250) (fun hp1 x1 hS1 fr1 => ?_)
  show qq_Go _ hp1 (750) (8250) 225 [(0, .ref 84), (1, .long ((lf_X7_digest_6 9 (7896 : Int64) (0 : Int32) S).1))] [] _ _
  refine qq_iconst (v := 0) dX7_digest_225 (by decide) ?_
  refine qq_istore_n (loc' := [(0, .ref 84), (1, .long ((lf_X7_digest_6 9 (7896 : Int64) (0 : Int32) S).1)), (3, .int 0)]) dX7_digest_226 rfl [1, 2, 0] (Nat.le_of_ble_eq_true rfl) rfl ?_
  refine qq_less (bc' := 264 + 486) (bs' := 2904 + 5346) (by omega) (by omega) ?_
  refine qq_less (bc' := 54 * 9 + (264)) (bs' := 594 * 9 + (2904)) (by omega) (by omega) ?_
  refine lq_X7_digest_227 A S zI zH 9 ((lf_X7_digest_6 9 (7896 : Int64) (0 : Int32) S).1) (0 : Int32) x1 hp1 hS1 (by decide) (by decide) (264) (2904) (fun hp2 x2 hS2 fr2 => ?_)
  show qq_Go _ hp2 (264) (2904) 272 [(0, .ref 84), (1, .long ((lf_X7_digest_227 9 ((lf_X7_digest_6 9 (7896 : Int64) (0 : Int32) S).1) (0 : Int32) S).1))] [] _ _
  refine qq_iconst (v := 0) dX7_digest_272 (by decide) ?_
  refine qq_istore_n (loc' := [(0, .ref 84), (1, .long ((lf_X7_digest_227 9 ((lf_X7_digest_6 9 (7896 : Int64) (0 : Int32) S).1) (0 : Int32) S).1)), (3, .int 0)]) dX7_digest_273 rfl [1, 2, 0] (Nat.le_of_ble_eq_true rfl) rfl ?_
  refine qq_less (bc' := 264 + 0) (bs' := 2904 + 0) (by omega) (by omega) ?_
  refine qq_less (bc' := 0 * 6 + (264)) (bs' := 0 * 6 + (2904)) (by omega) (by omega) ?_
  refine lq_X7_digest_274 A S 6 ((lf_X7_digest_227 9 ((lf_X7_digest_6 9 (7896 : Int64) (0 : Int32) S).1) (0 : Int32) S).1) (0 : Int32) x2 hp2 hS2 (by decide) (264) (2904) (fun hp3 x3 hS3 fr3 => ?_)
  show qq_Go _ hp3 (264) (2904) 298 [(0, .ref 84), (1, .long ((lf_X7_digest_274 6 ((lf_X7_digest_227 9 ((lf_X7_digest_6 9 (7896 : Int64) (0 : Int32) S).1) (0 : Int32) S).1) (0 : Int32) S).1))] [] _ _
  refine qq_aload_n dX7_digest_298 rfl 0 rfl ?_
  refine qq_iconst (v := 0) dX7_digest_299 (by decide) ?_
  refine mx_put10 hS3 dX7_digest_300 kl_X7_50 (fun hp4 hS4 fq4 => ?_)
  have fr4 := fq4 A
  replace hS4 : ms_M A (S.1, S.2.1, S.2.2.1, S.2.2.2.1, S.2.2.2.2.1, S.2.2.2.2.2.1, 0) hp4 := hS4
  refine qq_lload_n dX7_digest_303 rfl 1 rfl ?_
  refine qq_ldc2 (v := 31) dX7_digest_304 kl_X7_271 ?_
  refine qq_lmul dX7_digest_307 ?_
  refine qq_lconst (v := 1) dX7_digest_308 (by decide) ?_
  refine qq_ladd dX7_digest_309 ?_
  have ze : r_X7_digest S = ((((lf_X7_digest_274 6 ((lf_X7_digest_227 9 ((lf_X7_digest_6 9 (7896 : Int64) (0 : Int32) S).1) (0 : Int32) S).1) (0 : Int32) S).1) * 31) + 1, (S.1, S.2.1, S.2.2.1, S.2.2.2.1, S.2.2.2.2.1, S.2.2.2.2.2.1, 0)) := by
    rw [r_X7_digest]
  exact qq_lret dX7_digest_310 rfl ⟨by rw [ze], by rw [ze]; first | exact ms_pr hS4 | exact hS4, (fr_t (fr_t (fr_t fr1 fr2) fr3) fr4)⟩