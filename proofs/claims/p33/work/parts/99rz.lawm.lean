/-! the law's own methods -/
def ls_X (o : Nat) (hp hp' : qq_H) : Prop := hp'.1 = hp.1 ∧ ∀ j, (j < 80 ∨ 84 ≤ j) → j ≠ o → hp'.2 j = hp.2 j
theorem lsx_r {o : Nat} {hp hp' : qq_H} (h : sm_X hp hp') : ls_X o hp hp' := ⟨h.1, fun j a _ => h.2 j a⟩
theorem lsx_p {o : Nat} {hp hp' : qq_H} {c : qq_C} (h : sm_X hp hp') : ls_X o hp (hp'.1, va_up hp'.2 o c) := ⟨h.1, fun j a b => (up_o b rfl).trans (h.2 j a)⟩
theorem cs_up {S : sX} {hp : qq_H} {o : Nat} {c : qq_C} (h : cs_X S hp) (ho : 84 ≤ o) : cs_X S (hp.1, va_up hp.2 o c) := by
  obtain ⟨h1, h2, h3, h4, h5, h6⟩ := h
  exact ⟨qq_exm h1 (Nat.le_refl _) (fun k hk => up_o (show k ≠ o by omega) rfl), h2, up_o (show 80 ≠ o by omega) h3, up_o (show 81 ≠ o by omega) h4, up_o (show 82 ≠ o by omega) h5, up_o (show 83 ≠ o by omega) h6⟩
set_option maxRecDepth 4000 in
theorem mt_L_quarter (hp : qq_H) (S : sX) (hS : cs_X S hp) (o : Nat) (n : Int64) (sv : Value) (ho : hp.2 o = .inr (3, [.long n, sv])) (hoE : 84 ≤ o) (p0 p1 : Int32) : qq_Mt mL_quarter [.ref 80, .int p0, .int p1, .ref o] hp 2 12 (fun v hp' => ∃ (k : Int32) (n' : Int64) (S' : sX), v = some (.int k) ∧ cs_X S' hp' ∧ hp'.2 o = .inr (3, [.long n', sv]) ∧ ls_X o hp hp' ∧ ((k = 0 ∧ (¬ p0 < 0 ∧ ¬ 8 ≤ p0) ∧ (¬ p1 < -160 ∧ ¬ 160 < p1) ∧ S' = (r_X5_quarter p0 p1 S).2 ∧ n' = (r_X5_quarter p0 p1 S).1.toInt64) ∨ (k = 1 ∧ (p0 < 0 ∨ 8 ≤ p0) ∧ S' = S ∧ n' = n) ∨ (k = 2 ∧ (¬ p0 < 0 ∧ ¬ 8 ≤ p0) ∧ (p1 < -160 ∨ 160 < p1) ∧ S' = S ∧ n' = n))) (fun _ _ => False) := by
  refine qq_met pn_L (Nat.le_of_ble_eq_true rfl) (Nat.le_of_ble_eq_true rfl) kc_L_quarter ?_
  show qq_Go _ hp 2 12 0 [(0, .ref 80), (1, .int p0), (2, .int p1), (3, .ref o)] [] _ _
  refine qq_aload_n dL_quarter_0 rfl 3 rfl ?_
  refine qq_aload_n dL_quarter_1 rfl 0 rfl ?_
  refine qq_iload_n dL_quarter_2 rfl 1 rfl ?_
  refine qq_iload_n dL_quarter_3 rfl 2 rfl ?_
  refine qq_callV (bc := 0) (bs := 0) (mc := 2) (ms := 12) (o := 80) (ci := 2) (N := 6) (T := TX5) (as := [.int p0, .int p1]) (rest := [.ref o]) dL_quarter_4 hS.2.2.1 (by decide) rfl (mt_X5_quarter hp S hS p0 p1) rfl kl_L_7 kn_X5_quarter ke_X5_quarter ki_X5 kc_X5_quarter kd_X5_quarter rfl (by decide) (by decide) (Nat.le_of_ble_eq_true rfl) (fun v hp1 hv _ _ => ?_) (fun E hp1 zx _ _ => ?_)
  · obtain ⟨rfl, hS1, sM1, zg0, zg1⟩ := hv
    refine qq_i2l dL_quarter_7 ?_
    have ho1 : hp1.2 o = .inr (3, [.long n, sv]) := (sM1.2 o (Or.inr hoE)).trans ho
    refine qq_putN (C := RX6) (host := "QuarterpowersLaw") (T := TX6) (N := 2) (ty := .long) dL_quarter_8 ho1 (show 80 ≤ o by omega) rfl 0 (by decide) (Nat.le_of_ble_eq_true rfl) ku_X6 (by decide +kernel) tyX6 tyX6_ok nmX6 rfl (by decide +kernel) (fun _ => rfl) (fun _ => rfl) ?_
    refine qq_goto (tgt := 22) dL_quarter_11 (by decide) ?_
    refine qq_iconst (v := 0) dL_quarter_22 (by decide) ?_
    exact qq_iret dL_quarter_23 rfl rfl ⟨0, (r_X5_quarter p0 p1 S).1.toInt64, (r_X5_quarter p0 p1 S).2, rfl, cs_up hS1 hoE, up_p, lsx_p sM1, Or.inl ⟨rfl, zg0, zg1, rfl, rfl⟩⟩
  · obtain ⟨rfl, zx⟩ := zx
    rcases zx with zx | zx
    · obtain ⟨rfl, zf⟩ := zx
      refine qq_catch (name := "java/lang/IndexOutOfBoundsException") (n := 14) (loc' := [(0, .ref 80), (1, .int p0), (2, .int p1), (3, .ref o)]) [] (0, 11, 14, 19) [(0, 11, 18, 21)] rfl (fun z hz => nomatch hz) (fun z hz => by obtain rfl := List.mem_singleton.mp hz; exact ⟨rfl, by decide, kl_L_19, rfl⟩) rfl rfl (by decide +kernel) (i := 4) (ln := 2) [0, 1, 2, 3] (Or.inr ⟨dL_quarter_14, rfl⟩) (Nat.le_of_ble_eq_true rfl) rfl ?_
      refine qq_iconst (v := 1) dL_quarter_16 (by decide) ?_
      exact qq_iret dL_quarter_17 rfl rfl ⟨1, n, S, rfl, hS, ho, lsx_r (sm_r hp), (Or.inr (Or.inl ⟨rfl, zf, rfl, rfl⟩))⟩
    · obtain ⟨rfl, zg0, zf⟩ := zx
      refine qq_catch (name := "java/lang/IllegalArgumentException") (n := 18) (loc' := [(0, .ref 80), (1, .int p0), (2, .int p1), (3, .ref o)]) [(0, 11, 14, 19)] (0, 11, 18, 21) [] rfl (fun z hz => by simp only [tableOf, List.map_cons, List.map_nil, List.mem_cons, List.not_mem_nil, or_false] at hz; rcases hz with rfl <;> first | exact ⟨by decide, "java/lang/IndexOutOfBoundsException", kl_L_19, by decide +kernel⟩) (fun z hz => by obtain rfl := List.mem_singleton.mp hz; exact ⟨rfl, by decide, kl_L_21, rfl⟩) rfl rfl (by decide +kernel) (i := 4) (ln := 2) [0, 1, 2, 3] (Or.inr ⟨dL_quarter_18, rfl⟩) (Nat.le_of_ble_eq_true rfl) rfl ?_
      refine qq_iconst (v := 2) dL_quarter_20 (by decide) ?_
      exact qq_iret dL_quarter_21 rfl rfl ⟨2, n, S, rfl, hS, ho, lsx_r (sm_r hp), (Or.inr (Or.inr ⟨rfl, zg0, zf, rfl, rfl⟩))⟩
set_option maxRecDepth 4000 in
theorem mt_L_zero (hp : qq_H) (S : sX) (hS : cs_X S hp) (o : Nat) (n : Int64) (sv : Value) (ho : hp.2 o = .inr (3, [.long n, sv])) (hoE : 84 ≤ o) (p0 p1 : Int32) : qq_Mt mL_zero [.ref 80, .int p0, .int p1, .ref o] hp 1 6 (fun v hp' => ∃ (k : Int32) (n' : Int64) (S' : sX), v = some (.int k) ∧ cs_X S' hp' ∧ hp'.2 o = .inr (3, [.long n', sv]) ∧ ls_X o hp hp' ∧ ((k = 0 ∧ (¬ p0 < 0 ∧ ¬ 8 ≤ p0) ∧ S' = (r_X5_zero p0 p1 S).2 ∧ n' = (r_X5_zero p0 p1 S).1.toInt64) ∨ (k = 1 ∧ (p0 < 0 ∨ 8 ≤ p0) ∧ S' = S ∧ n' = n))) (fun _ _ => False) := by
  refine qq_met pn_L (Nat.le_of_ble_eq_true rfl) (Nat.le_of_ble_eq_true rfl) kc_L_zero ?_
  show qq_Go _ hp 1 6 0 [(0, .ref 80), (1, .int p0), (2, .int p1), (3, .ref o)] [] _ _
  refine qq_aload_n dL_zero_0 rfl 3 rfl ?_
  refine qq_aload_n dL_zero_1 rfl 0 rfl ?_
  refine qq_iload_n dL_zero_2 rfl 1 rfl ?_
  refine qq_iload_n dL_zero_3 rfl 2 rfl ?_
  refine qq_callV (bc := 0) (bs := 0) (mc := 1) (ms := 6) (o := 80) (ci := 2) (N := 6) (T := TX5) (as := [.int p0, .int p1]) (rest := [.ref o]) dL_zero_4 hS.2.2.1 (by decide) rfl (mt_X5_zero hp S hS p0 p1) rfl kl_L_23 kn_X5_zero ke_X5_zero ki_X5 kc_X5_zero kd_X5_zero rfl (by decide) (by decide) (Nat.le_of_ble_eq_true rfl) (fun v hp1 hv _ _ => ?_) (fun E hp1 zx _ _ => ?_)
  · obtain ⟨rfl, hS1, sM1, zg0⟩ := hv
    refine qq_i2l dL_zero_7 ?_
    have ho1 : hp1.2 o = .inr (3, [.long n, sv]) := (sM1.2 o (Or.inr hoE)).trans ho
    refine qq_putN (C := RX6) (host := "QuarterpowersLaw") (T := TX6) (N := 2) (ty := .long) dL_zero_8 ho1 (show 80 ≤ o by omega) rfl 0 (by decide) (Nat.le_of_ble_eq_true rfl) ku_X6 (by decide +kernel) tyX6 tyX6_ok nmX6 rfl (by decide +kernel) (fun _ => rfl) (fun _ => rfl) ?_
    refine qq_goto (tgt := 18) dL_zero_11 (by decide) ?_
    refine qq_iconst (v := 0) dL_zero_18 (by decide) ?_
    exact qq_iret dL_zero_19 rfl rfl ⟨0, (r_X5_zero p0 p1 S).1.toInt64, (r_X5_zero p0 p1 S).2, rfl, cs_up hS1 hoE, up_p, lsx_p sM1, Or.inl ⟨rfl, zg0, rfl, rfl⟩⟩
  · obtain ⟨rfl, zx⟩ := zx
    obtain ⟨rfl, zf⟩ := zx
    refine qq_catch (name := "java/lang/IndexOutOfBoundsException") (n := 14) (loc' := [(0, .ref 80), (1, .int p0), (2, .int p1), (3, .ref o)]) [] (0, 11, 14, 19) [] rfl (fun z hz => nomatch hz) (fun z hz => by obtain rfl := List.mem_singleton.mp hz; exact ⟨rfl, by decide, kl_L_19, rfl⟩) rfl rfl (by decide +kernel) (i := 4) (ln := 2) [0, 1, 2, 3] (Or.inr ⟨dL_zero_14, rfl⟩) (Nat.le_of_ble_eq_true rfl) rfl ?_
    refine qq_iconst (v := 1) dL_zero_16 (by decide) ?_
    exact qq_iret dL_zero_17 rfl rfl ⟨1, n, S, rfl, hS, ho, lsx_r (sm_r hp), (Or.inr ⟨rfl, zf, rfl, rfl⟩)⟩
set_option maxRecDepth 4000 in
theorem mt_L_endless (hp : qq_H) (S : sX) (hS : cs_X S hp) (o : Nat) (n : Int64) (sv : Value) (ho : hp.2 o = .inr (3, [.long n, sv])) (hoE : 84 ≤ o) (p0 p1 : Int32) : qq_Mt mL_endless [.ref 80, .int p0, .int p1, .ref o] hp 1 6 (fun v hp' => ∃ (k : Int32) (n' : Int64) (S' : sX), v = some (.int k) ∧ cs_X S' hp' ∧ hp'.2 o = .inr (3, [.long n', sv]) ∧ ls_X o hp hp' ∧ ((k = 0 ∧ (¬ p0 < 0 ∧ ¬ 8 ≤ p0) ∧ S' = (r_X5_endless p0 p1 S).2 ∧ n' = (r_X5_endless p0 p1 S).1.toInt64) ∨ (k = 1 ∧ (p0 < 0 ∨ 8 ≤ p0) ∧ S' = S ∧ n' = n))) (fun _ _ => False) := by
  refine qq_met pn_L (Nat.le_of_ble_eq_true rfl) (Nat.le_of_ble_eq_true rfl) kc_L_endless ?_
  show qq_Go _ hp 1 6 0 [(0, .ref 80), (1, .int p0), (2, .int p1), (3, .ref o)] [] _ _
  refine qq_aload_n dL_endless_0 rfl 3 rfl ?_
  refine qq_aload_n dL_endless_1 rfl 0 rfl ?_
  refine qq_iload_n dL_endless_2 rfl 1 rfl ?_
  refine qq_iload_n dL_endless_3 rfl 2 rfl ?_
  refine qq_callV (bc := 0) (bs := 0) (mc := 1) (ms := 6) (o := 80) (ci := 2) (N := 6) (T := TX5) (as := [.int p0, .int p1]) (rest := [.ref o]) dL_endless_4 hS.2.2.1 (by decide) rfl (mt_X5_endless hp S hS p0 p1) rfl kl_L_27 kn_X5_endless ke_X5_endless ki_X5 kc_X5_endless kd_X5_endless rfl (by decide) (by decide) (Nat.le_of_ble_eq_true rfl) (fun v hp1 hv _ _ => ?_) (fun E hp1 zx _ _ => ?_)
  · obtain ⟨rfl, hS1, sM1, zg0⟩ := hv
    refine qq_i2l dL_endless_7 ?_
    have ho1 : hp1.2 o = .inr (3, [.long n, sv]) := (sM1.2 o (Or.inr hoE)).trans ho
    refine qq_putN (C := RX6) (host := "QuarterpowersLaw") (T := TX6) (N := 2) (ty := .long) dL_endless_8 ho1 (show 80 ≤ o by omega) rfl 0 (by decide) (Nat.le_of_ble_eq_true rfl) ku_X6 (by decide +kernel) tyX6 tyX6_ok nmX6 rfl (by decide +kernel) (fun _ => rfl) (fun _ => rfl) ?_
    refine qq_goto (tgt := 18) dL_endless_11 (by decide) ?_
    refine qq_iconst (v := 0) dL_endless_18 (by decide) ?_
    exact qq_iret dL_endless_19 rfl rfl ⟨0, (r_X5_endless p0 p1 S).1.toInt64, (r_X5_endless p0 p1 S).2, rfl, cs_up hS1 hoE, up_p, lsx_p sM1, Or.inl ⟨rfl, zg0, rfl, rfl⟩⟩
  · obtain ⟨rfl, zx⟩ := zx
    obtain ⟨rfl, zf⟩ := zx
    refine qq_catch (name := "java/lang/IndexOutOfBoundsException") (n := 14) (loc' := [(0, .ref 80), (1, .int p0), (2, .int p1), (3, .ref o)]) [] (0, 11, 14, 19) [] rfl (fun z hz => nomatch hz) (fun z hz => by obtain rfl := List.mem_singleton.mp hz; exact ⟨rfl, by decide, kl_L_19, rfl⟩) rfl rfl (by decide +kernel) (i := 4) (ln := 2) [0, 1, 2, 3] (Or.inr ⟨dL_endless_14, rfl⟩) (Nat.le_of_ble_eq_true rfl) rfl ?_
    refine qq_iconst (v := 1) dL_endless_16 (by decide) ?_
    exact qq_iret dL_endless_17 rfl rfl ⟨1, n, S, rfl, hS, ho, lsx_r (sm_r hp), (Or.inr ⟨rfl, zf, rfl, rfl⟩)⟩
set_option maxRecDepth 4000 in
theorem mt_L_row (hp : qq_H) (S : sX) (hS : cs_X S hp) (o : Nat) (n : Int64) (sv : Value) (ho : hp.2 o = .inr (3, [.long n, sv])) (hoE : 84 ≤ o) (p0 p1 : Int32) : qq_Mt mL_row [.ref 80, .int p0, .int p1, .ref o] hp 2 12 (fun v hp' => ∃ (k : Int32) (n' : Int64) (S' : sX), v = some (.int k) ∧ cs_X S' hp' ∧ hp'.2 o = .inr (3, [.long n', sv]) ∧ ls_X o hp hp' ∧ ((k = 0 ∧ (¬ p0 < -160 ∧ ¬ 160 < p0) ∧ (¬ p1 < -40 ∧ ¬ 40 < p1) ∧ S' = (r_X5_row p0 p1 S).2 ∧ n' = (r_X5_row p0 p1 S).1.toInt64) ∨ (k = 1 ∧ (p0 < -160 ∨ 160 < p0) ∧ S' = S ∧ n' = n) ∨ (k = 1 ∧ (¬ p0 < -160 ∧ ¬ 160 < p0) ∧ (p1 < -40 ∨ 40 < p1) ∧ S' = S ∧ n' = n))) (fun _ _ => False) := by
  refine qq_met pn_L (Nat.le_of_ble_eq_true rfl) (Nat.le_of_ble_eq_true rfl) kc_L_row ?_
  show qq_Go _ hp 2 12 0 [(0, .ref 80), (1, .int p0), (2, .int p1), (3, .ref o)] [] _ _
  refine qq_aload_n dL_row_0 rfl 3 rfl ?_
  refine qq_aload_n dL_row_1 rfl 0 rfl ?_
  refine qq_iload_n dL_row_2 rfl 1 rfl ?_
  refine qq_iload_n dL_row_3 rfl 2 rfl ?_
  refine qq_callV (bc := 0) (bs := 0) (mc := 2) (ms := 12) (o := 80) (ci := 2) (N := 6) (T := TX5) (as := [.int p0, .int p1]) (rest := [.ref o]) dL_row_4 hS.2.2.1 (by decide) rfl (mt_X5_row hp S hS p0 p1) rfl kl_L_30 kn_X5_row ke_X5_row ki_X5 kc_X5_row kd_X5_row rfl (by decide) (by decide) (Nat.le_of_ble_eq_true rfl) (fun v hp1 hv _ _ => ?_) (fun E hp1 zx _ _ => ?_)
  · obtain ⟨rfl, hS1, sM1, zg0, zg1⟩ := hv
    refine qq_i2l dL_row_7 ?_
    have ho1 : hp1.2 o = .inr (3, [.long n, sv]) := (sM1.2 o (Or.inr hoE)).trans ho
    refine qq_putN (C := RX6) (host := "QuarterpowersLaw") (T := TX6) (N := 2) (ty := .long) dL_row_8 ho1 (show 80 ≤ o by omega) rfl 0 (by decide) (Nat.le_of_ble_eq_true rfl) ku_X6 (by decide +kernel) tyX6 tyX6_ok nmX6 rfl (by decide +kernel) (fun _ => rfl) (fun _ => rfl) ?_
    refine qq_goto (tgt := 18) dL_row_11 (by decide) ?_
    refine qq_iconst (v := 0) dL_row_18 (by decide) ?_
    exact qq_iret dL_row_19 rfl rfl ⟨0, (r_X5_row p0 p1 S).1.toInt64, (r_X5_row p0 p1 S).2, rfl, cs_up hS1 hoE, up_p, lsx_p sM1, Or.inl ⟨rfl, zg0, zg1, rfl, rfl⟩⟩
  · obtain ⟨rfl, zx⟩ := zx
    rcases zx with zx | zx
    · obtain ⟨rfl, zf⟩ := zx
      refine qq_catch (name := "java/lang/IllegalArgumentException") (n := 14) (loc' := [(0, .ref 80), (1, .int p0), (2, .int p1), (3, .ref o)]) [] (0, 11, 14, 21) [] rfl (fun z hz => nomatch hz) (fun z hz => by obtain rfl := List.mem_singleton.mp hz; exact ⟨rfl, by decide, kl_L_21, rfl⟩) rfl rfl (by decide +kernel) (i := 4) (ln := 2) [0, 1, 2, 3] (Or.inr ⟨dL_row_14, rfl⟩) (Nat.le_of_ble_eq_true rfl) rfl ?_
      refine qq_iconst (v := 1) dL_row_16 (by decide) ?_
      exact qq_iret dL_row_17 rfl rfl ⟨1, n, S, rfl, hS, ho, lsx_r (sm_r hp), (Or.inr (Or.inl ⟨rfl, zf, rfl, rfl⟩))⟩
    · obtain ⟨rfl, zg0, zf⟩ := zx
      refine qq_catch (name := "java/lang/IllegalArgumentException") (n := 14) (loc' := [(0, .ref 80), (1, .int p0), (2, .int p1), (3, .ref o)]) [] (0, 11, 14, 21) [] rfl (fun z hz => nomatch hz) (fun z hz => by obtain rfl := List.mem_singleton.mp hz; exact ⟨rfl, by decide, kl_L_21, rfl⟩) rfl rfl (by decide +kernel) (i := 4) (ln := 2) [0, 1, 2, 3] (Or.inr ⟨dL_row_14, rfl⟩) (Nat.le_of_ble_eq_true rfl) rfl ?_
      refine qq_iconst (v := 1) dL_row_16 (by decide) ?_
      exact qq_iret dL_row_17 rfl rfl ⟨1, n, S, rfl, hS, ho, lsx_r (sm_r hp), (Or.inr (Or.inr ⟨rfl, zg0, zf, rfl, rfl⟩))⟩
set_option maxRecDepth 4000 in
theorem mt_L_copy (hp : qq_H) (S : sX) (hS : cs_X S hp) (o : Nat) (n : Int64) (sv : Value) (ho : hp.2 o = .inr (3, [.long n, sv])) (hoE : 84 ≤ o) (p0 p1 : Int32) : qq_Mt mL_copy [.ref 80, .int p0, .int p1, .ref o] hp 2 12 (fun v hp' => ∃ (k : Int32) (n' : Int64) (S' : sX), v = some (.int k) ∧ cs_X S' hp' ∧ hp'.2 o = .inr (3, [.long n', sv]) ∧ ls_X o hp hp' ∧ ((k = 0 ∧ (¬ p0 < 0 ∧ ¬ 8 ≤ p0) ∧ (¬ p1 < 0 ∧ ¬ 8 ≤ p1) ∧ S' = (r_X5_copy p0 p1 S).2 ∧ n' = (r_X5_copy p0 p1 S).1.toInt64) ∨ (k = 1 ∧ (p0 < 0 ∨ 8 ≤ p0) ∧ S' = S ∧ n' = n) ∨ (k = 1 ∧ (¬ p0 < 0 ∧ ¬ 8 ≤ p0) ∧ (p1 < 0 ∨ 8 ≤ p1) ∧ S' = S ∧ n' = n))) (fun _ _ => False) := by
  refine qq_met pn_L (Nat.le_of_ble_eq_true rfl) (Nat.le_of_ble_eq_true rfl) kc_L_copy ?_
  show qq_Go _ hp 2 12 0 [(0, .ref 80), (1, .int p0), (2, .int p1), (3, .ref o)] [] _ _
  refine qq_aload_n dL_copy_0 rfl 3 rfl ?_
  refine qq_aload_n dL_copy_1 rfl 0 rfl ?_
  refine qq_iload_n dL_copy_2 rfl 1 rfl ?_
  refine qq_iload_n dL_copy_3 rfl 2 rfl ?_
  refine qq_callV (bc := 0) (bs := 0) (mc := 2) (ms := 12) (o := 80) (ci := 2) (N := 6) (T := TX5) (as := [.int p0, .int p1]) (rest := [.ref o]) dL_copy_4 hS.2.2.1 (by decide) rfl (mt_X5_copy hp S hS p0 p1) rfl kl_L_33 kn_X5_copy ke_X5_copy ki_X5 kc_X5_copy kd_X5_copy rfl (by decide) (by decide) (Nat.le_of_ble_eq_true rfl) (fun v hp1 hv _ _ => ?_) (fun E hp1 zx _ _ => ?_)
  · obtain ⟨rfl, hS1, sM1, zg0, zg1⟩ := hv
    refine qq_i2l dL_copy_7 ?_
    have ho1 : hp1.2 o = .inr (3, [.long n, sv]) := (sM1.2 o (Or.inr hoE)).trans ho
    refine qq_putN (C := RX6) (host := "QuarterpowersLaw") (T := TX6) (N := 2) (ty := .long) dL_copy_8 ho1 (show 80 ≤ o by omega) rfl 0 (by decide) (Nat.le_of_ble_eq_true rfl) ku_X6 (by decide +kernel) tyX6 tyX6_ok nmX6 rfl (by decide +kernel) (fun _ => rfl) (fun _ => rfl) ?_
    refine qq_goto (tgt := 18) dL_copy_11 (by decide) ?_
    refine qq_iconst (v := 0) dL_copy_18 (by decide) ?_
    exact qq_iret dL_copy_19 rfl rfl ⟨0, (r_X5_copy p0 p1 S).1.toInt64, (r_X5_copy p0 p1 S).2, rfl, cs_up hS1 hoE, up_p, lsx_p sM1, Or.inl ⟨rfl, zg0, zg1, rfl, rfl⟩⟩
  · obtain ⟨rfl, zx⟩ := zx
    rcases zx with zx | zx
    · obtain ⟨rfl, zf⟩ := zx
      refine qq_catch (name := "java/lang/IndexOutOfBoundsException") (n := 14) (loc' := [(0, .ref 80), (1, .int p0), (2, .int p1), (3, .ref o)]) [] (0, 11, 14, 19) [] rfl (fun z hz => nomatch hz) (fun z hz => by obtain rfl := List.mem_singleton.mp hz; exact ⟨rfl, by decide, kl_L_19, rfl⟩) rfl rfl (by decide +kernel) (i := 4) (ln := 2) [0, 1, 2, 3] (Or.inr ⟨dL_copy_14, rfl⟩) (Nat.le_of_ble_eq_true rfl) rfl ?_
      refine qq_iconst (v := 1) dL_copy_16 (by decide) ?_
      exact qq_iret dL_copy_17 rfl rfl ⟨1, n, S, rfl, hS, ho, lsx_r (sm_r hp), (Or.inr (Or.inl ⟨rfl, zf, rfl, rfl⟩))⟩
    · obtain ⟨rfl, zg0, zf⟩ := zx
      refine qq_catch (name := "java/lang/IndexOutOfBoundsException") (n := 14) (loc' := [(0, .ref 80), (1, .int p0), (2, .int p1), (3, .ref o)]) [] (0, 11, 14, 19) [] rfl (fun z hz => nomatch hz) (fun z hz => by obtain rfl := List.mem_singleton.mp hz; exact ⟨rfl, by decide, kl_L_19, rfl⟩) rfl rfl (by decide +kernel) (i := 4) (ln := 2) [0, 1, 2, 3] (Or.inr ⟨dL_copy_14, rfl⟩) (Nat.le_of_ble_eq_true rfl) rfl ?_
      refine qq_iconst (v := 1) dL_copy_16 (by decide) ?_
      exact qq_iret dL_copy_17 rfl rfl ⟨1, n, S, rfl, hS, ho, lsx_r (sm_r hp), (Or.inr (Or.inr ⟨rfl, zg0, zf, rfl, rfl⟩))⟩
set_option maxRecDepth 4000 in
theorem mt_L_swap (hp : qq_H) (S : sX) (hS : cs_X S hp) (o : Nat) (n : Int64) (sv : Value) (ho : hp.2 o = .inr (3, [.long n, sv])) (hoE : 84 ≤ o) (p0 p1 : Int32) : qq_Mt mL_swap [.ref 80, .int p0, .int p1, .ref o] hp 2 12 (fun v hp' => ∃ (k : Int32) (n' : Int64) (S' : sX), v = some (.int k) ∧ cs_X S' hp' ∧ hp'.2 o = .inr (3, [.long n', sv]) ∧ ls_X o hp hp' ∧ ((k = 0 ∧ (¬ p0 < 0 ∧ ¬ 8 ≤ p0) ∧ (¬ p1 < 0 ∧ ¬ 8 ≤ p1) ∧ S' = (r_X5_swap p0 p1 S).2 ∧ n' = (r_X5_swap p0 p1 S).1.toInt64) ∨ (k = 1 ∧ (p0 < 0 ∨ 8 ≤ p0) ∧ S' = S ∧ n' = n) ∨ (k = 1 ∧ (¬ p0 < 0 ∧ ¬ 8 ≤ p0) ∧ (p1 < 0 ∨ 8 ≤ p1) ∧ S' = S ∧ n' = n))) (fun _ _ => False) := by
  refine qq_met pn_L (Nat.le_of_ble_eq_true rfl) (Nat.le_of_ble_eq_true rfl) kc_L_swap ?_
  show qq_Go _ hp 2 12 0 [(0, .ref 80), (1, .int p0), (2, .int p1), (3, .ref o)] [] _ _
  refine qq_aload_n dL_swap_0 rfl 3 rfl ?_
  refine qq_aload_n dL_swap_1 rfl 0 rfl ?_
  refine qq_iload_n dL_swap_2 rfl 1 rfl ?_
  refine qq_iload_n dL_swap_3 rfl 2 rfl ?_
  refine qq_callV (bc := 0) (bs := 0) (mc := 2) (ms := 12) (o := 80) (ci := 2) (N := 6) (T := TX5) (as := [.int p0, .int p1]) (rest := [.ref o]) dL_swap_4 hS.2.2.1 (by decide) rfl (mt_X5_swap hp S hS p0 p1) rfl kl_L_36 kn_X5_swap ke_X5_swap ki_X5 kc_X5_swap kd_X5_swap rfl (by decide) (by decide) (Nat.le_of_ble_eq_true rfl) (fun v hp1 hv _ _ => ?_) (fun E hp1 zx _ _ => ?_)
  · obtain ⟨rfl, hS1, sM1, zg0, zg1⟩ := hv
    refine qq_i2l dL_swap_7 ?_
    have ho1 : hp1.2 o = .inr (3, [.long n, sv]) := (sM1.2 o (Or.inr hoE)).trans ho
    refine qq_putN (C := RX6) (host := "QuarterpowersLaw") (T := TX6) (N := 2) (ty := .long) dL_swap_8 ho1 (show 80 ≤ o by omega) rfl 0 (by decide) (Nat.le_of_ble_eq_true rfl) ku_X6 (by decide +kernel) tyX6 tyX6_ok nmX6 rfl (by decide +kernel) (fun _ => rfl) (fun _ => rfl) ?_
    refine qq_goto (tgt := 18) dL_swap_11 (by decide) ?_
    refine qq_iconst (v := 0) dL_swap_18 (by decide) ?_
    exact qq_iret dL_swap_19 rfl rfl ⟨0, (r_X5_swap p0 p1 S).1.toInt64, (r_X5_swap p0 p1 S).2, rfl, cs_up hS1 hoE, up_p, lsx_p sM1, Or.inl ⟨rfl, zg0, zg1, rfl, rfl⟩⟩
  · obtain ⟨rfl, zx⟩ := zx
    rcases zx with zx | zx
    · obtain ⟨rfl, zf⟩ := zx
      refine qq_catch (name := "java/lang/IndexOutOfBoundsException") (n := 14) (loc' := [(0, .ref 80), (1, .int p0), (2, .int p1), (3, .ref o)]) [] (0, 11, 14, 19) [] rfl (fun z hz => nomatch hz) (fun z hz => by obtain rfl := List.mem_singleton.mp hz; exact ⟨rfl, by decide, kl_L_19, rfl⟩) rfl rfl (by decide +kernel) (i := 4) (ln := 2) [0, 1, 2, 3] (Or.inr ⟨dL_swap_14, rfl⟩) (Nat.le_of_ble_eq_true rfl) rfl ?_
      refine qq_iconst (v := 1) dL_swap_16 (by decide) ?_
      exact qq_iret dL_swap_17 rfl rfl ⟨1, n, S, rfl, hS, ho, lsx_r (sm_r hp), (Or.inr (Or.inl ⟨rfl, zf, rfl, rfl⟩))⟩
    · obtain ⟨rfl, zg0, zf⟩ := zx
      refine qq_catch (name := "java/lang/IndexOutOfBoundsException") (n := 14) (loc' := [(0, .ref 80), (1, .int p0), (2, .int p1), (3, .ref o)]) [] (0, 11, 14, 19) [] rfl (fun z hz => nomatch hz) (fun z hz => by obtain rfl := List.mem_singleton.mp hz; exact ⟨rfl, by decide, kl_L_19, rfl⟩) rfl rfl (by decide +kernel) (i := 4) (ln := 2) [0, 1, 2, 3] (Or.inr ⟨dL_swap_14, rfl⟩) (Nat.le_of_ble_eq_true rfl) rfl ?_
      refine qq_iconst (v := 1) dL_swap_16 (by decide) ?_
      exact qq_iret dL_swap_17 rfl rfl ⟨1, n, S, rfl, hS, ho, lsx_r (sm_r hp), (Or.inr (Or.inr ⟨rfl, zg0, zf, rfl, rfl⟩))⟩
set_option maxRecDepth 4000 in
theorem mt_L_step (hp : qq_H) (S : sX) (hS : cs_X S hp) (o : Nat) (n : Int64) (sv : Value) (ho : hp.2 o = .inr (3, [.long n, sv])) (hoE : 84 ≤ o) (p0 p1 : Int32) : qq_Mt mL_step [.ref 80, .int p0, .int p1, .ref o] hp 2 12 (fun v hp' => ∃ (k : Int32) (n' : Int64) (S' : sX), v = some (.int k) ∧ cs_X S' hp' ∧ hp'.2 o = .inr (3, [.long n', sv]) ∧ ls_X o hp hp' ∧ ((k = 0 ∧ (¬ p0 < 0 ∧ ¬ 8 ≤ p0) ∧ (¬ p1 < -320 ∧ ¬ 320 < p1) ∧ S' = (r_X5_step p0 p1 S).2 ∧ n' = (r_X5_step p0 p1 S).1.toInt64) ∨ (k = 1 ∧ (p0 < 0 ∨ 8 ≤ p0) ∧ S' = S ∧ n' = n) ∨ (k = 2 ∧ (¬ p0 < 0 ∧ ¬ 8 ≤ p0) ∧ (p1 < -320 ∨ 320 < p1) ∧ S' = S ∧ n' = n))) (fun _ _ => False) := by
  refine qq_met pn_L (Nat.le_of_ble_eq_true rfl) (Nat.le_of_ble_eq_true rfl) kc_L_step ?_
  show qq_Go _ hp 2 12 0 [(0, .ref 80), (1, .int p0), (2, .int p1), (3, .ref o)] [] _ _
  refine qq_aload_n dL_step_0 rfl 3 rfl ?_
  refine qq_aload_n dL_step_1 rfl 0 rfl ?_
  refine qq_iload_n dL_step_2 rfl 1 rfl ?_
  refine qq_iload_n dL_step_3 rfl 2 rfl ?_
  refine qq_callV (bc := 0) (bs := 0) (mc := 2) (ms := 12) (o := 80) (ci := 2) (N := 6) (T := TX5) (as := [.int p0, .int p1]) (rest := [.ref o]) dL_step_4 hS.2.2.1 (by decide) rfl (mt_X5_step hp S hS p0 p1) rfl kl_L_39 kn_X5_step ke_X5_step ki_X5 kc_X5_step kd_X5_step rfl (by decide) (by decide) (Nat.le_of_ble_eq_true rfl) (fun v hp1 hv _ _ => ?_) (fun E hp1 zx _ _ => ?_)
  · obtain ⟨rfl, hS1, sM1, zg0, zg1⟩ := hv
    refine qq_i2l dL_step_7 ?_
    have ho1 : hp1.2 o = .inr (3, [.long n, sv]) := (sM1.2 o (Or.inr hoE)).trans ho
    refine qq_putN (C := RX6) (host := "QuarterpowersLaw") (T := TX6) (N := 2) (ty := .long) dL_step_8 ho1 (show 80 ≤ o by omega) rfl 0 (by decide) (Nat.le_of_ble_eq_true rfl) ku_X6 (by decide +kernel) tyX6 tyX6_ok nmX6 rfl (by decide +kernel) (fun _ => rfl) (fun _ => rfl) ?_
    refine qq_goto (tgt := 22) dL_step_11 (by decide) ?_
    refine qq_iconst (v := 0) dL_step_22 (by decide) ?_
    exact qq_iret dL_step_23 rfl rfl ⟨0, (r_X5_step p0 p1 S).1.toInt64, (r_X5_step p0 p1 S).2, rfl, cs_up hS1 hoE, up_p, lsx_p sM1, Or.inl ⟨rfl, zg0, zg1, rfl, rfl⟩⟩
  · obtain ⟨rfl, zx⟩ := zx
    rcases zx with zx | zx
    · obtain ⟨rfl, zf⟩ := zx
      refine qq_catch (name := "java/lang/IndexOutOfBoundsException") (n := 14) (loc' := [(0, .ref 80), (1, .int p0), (2, .int p1), (3, .ref o)]) [] (0, 11, 14, 19) [(0, 11, 18, 21)] rfl (fun z hz => nomatch hz) (fun z hz => by obtain rfl := List.mem_singleton.mp hz; exact ⟨rfl, by decide, kl_L_19, rfl⟩) rfl rfl (by decide +kernel) (i := 4) (ln := 2) [0, 1, 2, 3] (Or.inr ⟨dL_step_14, rfl⟩) (Nat.le_of_ble_eq_true rfl) rfl ?_
      refine qq_iconst (v := 1) dL_step_16 (by decide) ?_
      exact qq_iret dL_step_17 rfl rfl ⟨1, n, S, rfl, hS, ho, lsx_r (sm_r hp), (Or.inr (Or.inl ⟨rfl, zf, rfl, rfl⟩))⟩
    · obtain ⟨rfl, zg0, zf⟩ := zx
      refine qq_catch (name := "java/lang/IllegalArgumentException") (n := 18) (loc' := [(0, .ref 80), (1, .int p0), (2, .int p1), (3, .ref o)]) [(0, 11, 14, 19)] (0, 11, 18, 21) [] rfl (fun z hz => by simp only [tableOf, List.map_cons, List.map_nil, List.mem_cons, List.not_mem_nil, or_false] at hz; rcases hz with rfl <;> first | exact ⟨by decide, "java/lang/IndexOutOfBoundsException", kl_L_19, by decide +kernel⟩) (fun z hz => by obtain rfl := List.mem_singleton.mp hz; exact ⟨rfl, by decide, kl_L_21, rfl⟩) rfl rfl (by decide +kernel) (i := 4) (ln := 2) [0, 1, 2, 3] (Or.inr ⟨dL_step_18, rfl⟩) (Nat.le_of_ble_eq_true rfl) rfl ?_
      refine qq_iconst (v := 2) dL_step_20 (by decide) ?_
      exact qq_iret dL_step_21 rfl rfl ⟨2, n, S, rfl, hS, ho, lsx_r (sm_r hp), (Or.inr (Or.inr ⟨rfl, zg0, zf, rfl, rfl⟩))⟩
set_option maxRecDepth 4000 in
theorem mt_L_turn (hp : qq_H) (S : sX) (hS : cs_X S hp) (o : Nat) (n : Int64) (sv : Value) (ho : hp.2 o = .inr (3, [.long n, sv])) (hoE : 84 ≤ o) (p0 : Int32) : qq_Mt mL_turn [.ref 80, .int p0, .ref o] hp 1 6 (fun v hp' => ∃ (k : Int32) (n' : Int64) (S' : sX), v = some (.int k) ∧ cs_X S' hp' ∧ hp'.2 o = .inr (3, [.long n', sv]) ∧ ls_X o hp hp' ∧ ((k = 0 ∧ (¬ p0 < 0 ∧ ¬ 8 ≤ p0) ∧ S' = (r_X5_turn p0 S).2 ∧ n' = (r_X5_turn p0 S).1.toInt64) ∨ (k = 1 ∧ (p0 < 0 ∨ 8 ≤ p0) ∧ S' = S ∧ n' = n))) (fun _ _ => False) := by
  refine qq_met pn_L (Nat.le_of_ble_eq_true rfl) (Nat.le_of_ble_eq_true rfl) kc_L_turn ?_
  show qq_Go _ hp 1 6 0 [(0, .ref 80), (1, .int p0), (2, .ref o)] [] _ _
  refine qq_aload_n dL_turn_0 rfl 2 rfl ?_
  refine qq_aload_n dL_turn_1 rfl 0 rfl ?_
  refine qq_iload_n dL_turn_2 rfl 1 rfl ?_
  refine qq_callV (bc := 0) (bs := 0) (mc := 1) (ms := 6) (o := 80) (ci := 2) (N := 6) (T := TX5) (as := [.int p0]) (rest := [.ref o]) dL_turn_3 hS.2.2.1 (by decide) rfl (mt_X5_turn hp S hS p0) rfl kl_L_42 kn_X5_turn ke_X5_turn ki_X5 kc_X5_turn kd_X5_turn rfl (by decide) (by decide) (Nat.le_of_ble_eq_true rfl) (fun v hp1 hv _ _ => ?_) (fun E hp1 zx _ _ => ?_)
  · obtain ⟨rfl, hS1, sM1, zg0⟩ := hv
    refine qq_i2l dL_turn_6 ?_
    have ho1 : hp1.2 o = .inr (3, [.long n, sv]) := (sM1.2 o (Or.inr hoE)).trans ho
    refine qq_putN (C := RX6) (host := "QuarterpowersLaw") (T := TX6) (N := 2) (ty := .long) dL_turn_7 ho1 (show 80 ≤ o by omega) rfl 0 (by decide) (Nat.le_of_ble_eq_true rfl) ku_X6 (by decide +kernel) tyX6 tyX6_ok nmX6 rfl (by decide +kernel) (fun _ => rfl) (fun _ => rfl) ?_
    refine qq_goto (tgt := 16) dL_turn_10 (by decide) ?_
    refine qq_iconst (v := 0) dL_turn_16 (by decide) ?_
    exact qq_iret dL_turn_17 rfl rfl ⟨0, (r_X5_turn p0 S).1.toInt64, (r_X5_turn p0 S).2, rfl, cs_up hS1 hoE, up_p, lsx_p sM1, Or.inl ⟨rfl, zg0, rfl, rfl⟩⟩
  · obtain ⟨rfl, zx⟩ := zx
    obtain ⟨rfl, zf⟩ := zx
    refine qq_catch (name := "java/lang/IndexOutOfBoundsException") (n := 13) (loc' := [(0, .ref 80), (1, .int p0), (2, .ref o)]) [] (0, 10, 13, 19) [] rfl (fun z hz => nomatch hz) (fun z hz => by obtain rfl := List.mem_singleton.mp hz; exact ⟨rfl, by decide, kl_L_19, rfl⟩) rfl rfl (by decide +kernel) (i := 3) (ln := 1) [0, 1, 2] (Or.inl ⟨dL_turn_13, by decide, rfl⟩) (Nat.le_of_ble_eq_true rfl) rfl ?_
    refine qq_iconst (v := 1) dL_turn_14 (by decide) ?_
    exact qq_iret dL_turn_15 rfl rfl ⟨1, n, S, rfl, hS, ho, lsx_r (sm_r hp), (Or.inr ⟨rfl, zf, rfl, rfl⟩)⟩
set_option maxRecDepth 4000 in
theorem mt_L_power (hp : qq_H) (S : sX) (hS : cs_X S hp) (o : Nat) (n : Int64) (sv : Value) (ho : hp.2 o = .inr (3, [.long n, sv])) (hoE : 84 ≤ o) (p0 p1 : Int32) : qq_Mt mL_power [.ref 80, .int p0, .int p1, .ref o] hp 2 12 (fun v hp' => ∃ (k : Int32) (n' : Int64) (S' : sX), v = some (.int k) ∧ cs_X S' hp' ∧ hp'.2 o = .inr (3, [.long n', sv]) ∧ ls_X o hp hp' ∧ ((k = 0 ∧ (¬ p0 < 0 ∧ ¬ 8 ≤ p0) ∧ (¬ p1 < 0 ∧ ¬ 8 ≤ p1) ∧ S' = (r_X5_power p0 p1 S).2 ∧ n' = (r_X5_power p0 p1 S).1.toInt64) ∨ (k = 1 ∧ (p0 < 0 ∨ 8 ≤ p0) ∧ S' = S ∧ n' = n) ∨ (k = 1 ∧ (¬ p0 < 0 ∧ ¬ 8 ≤ p0) ∧ (p1 < 0 ∨ 8 ≤ p1) ∧ S' = S ∧ n' = n))) (fun _ _ => False) := by
  refine qq_met pn_L (Nat.le_of_ble_eq_true rfl) (Nat.le_of_ble_eq_true rfl) kc_L_power ?_
  show qq_Go _ hp 2 12 0 [(0, .ref 80), (1, .int p0), (2, .int p1), (3, .ref o)] [] _ _
  refine qq_aload_n dL_power_0 rfl 3 rfl ?_
  refine qq_aload_n dL_power_1 rfl 0 rfl ?_
  refine qq_iload_n dL_power_2 rfl 1 rfl ?_
  refine qq_iload_n dL_power_3 rfl 2 rfl ?_
  refine qq_callV (bc := 0) (bs := 0) (mc := 2) (ms := 12) (o := 80) (ci := 2) (N := 6) (T := TX5) (as := [.int p0, .int p1]) (rest := [.ref o]) dL_power_4 hS.2.2.1 (by decide) rfl (mt_X5_power hp S hS p0 p1) rfl kl_L_46 kn_X5_power ke_X5_power ki_X5 kc_X5_power kd_X5_power rfl (by decide) (by decide) (Nat.le_of_ble_eq_true rfl) (fun v hp1 hv _ _ => ?_) (fun E hp1 zx _ _ => ?_)
  · obtain ⟨rfl, hS1, sM1, zg0, zg1⟩ := hv
    refine qq_i2l dL_power_7 ?_
    have ho1 : hp1.2 o = .inr (3, [.long n, sv]) := (sM1.2 o (Or.inr hoE)).trans ho
    refine qq_putN (C := RX6) (host := "QuarterpowersLaw") (T := TX6) (N := 2) (ty := .long) dL_power_8 ho1 (show 80 ≤ o by omega) rfl 0 (by decide) (Nat.le_of_ble_eq_true rfl) ku_X6 (by decide +kernel) tyX6 tyX6_ok nmX6 rfl (by decide +kernel) (fun _ => rfl) (fun _ => rfl) ?_
    refine qq_goto (tgt := 18) dL_power_11 (by decide) ?_
    refine qq_iconst (v := 0) dL_power_18 (by decide) ?_
    exact qq_iret dL_power_19 rfl rfl ⟨0, (r_X5_power p0 p1 S).1.toInt64, (r_X5_power p0 p1 S).2, rfl, cs_up hS1 hoE, up_p, lsx_p sM1, Or.inl ⟨rfl, zg0, zg1, rfl, rfl⟩⟩
  · obtain ⟨rfl, zx⟩ := zx
    rcases zx with zx | zx
    · obtain ⟨rfl, zf⟩ := zx
      refine qq_catch (name := "java/lang/IndexOutOfBoundsException") (n := 14) (loc' := [(0, .ref 80), (1, .int p0), (2, .int p1), (3, .ref o)]) [] (0, 11, 14, 19) [] rfl (fun z hz => nomatch hz) (fun z hz => by obtain rfl := List.mem_singleton.mp hz; exact ⟨rfl, by decide, kl_L_19, rfl⟩) rfl rfl (by decide +kernel) (i := 4) (ln := 2) [0, 1, 2, 3] (Or.inr ⟨dL_power_14, rfl⟩) (Nat.le_of_ble_eq_true rfl) rfl ?_
      refine qq_iconst (v := 1) dL_power_16 (by decide) ?_
      exact qq_iret dL_power_17 rfl rfl ⟨1, n, S, rfl, hS, ho, lsx_r (sm_r hp), (Or.inr (Or.inl ⟨rfl, zf, rfl, rfl⟩))⟩
    · obtain ⟨rfl, zg0, zf⟩ := zx
      refine qq_catch (name := "java/lang/IndexOutOfBoundsException") (n := 14) (loc' := [(0, .ref 80), (1, .int p0), (2, .int p1), (3, .ref o)]) [] (0, 11, 14, 19) [] rfl (fun z hz => nomatch hz) (fun z hz => by obtain rfl := List.mem_singleton.mp hz; exact ⟨rfl, by decide, kl_L_19, rfl⟩) rfl rfl (by decide +kernel) (i := 4) (ln := 2) [0, 1, 2, 3] (Or.inr ⟨dL_power_14, rfl⟩) (Nat.le_of_ble_eq_true rfl) rfl ?_
      refine qq_iconst (v := 1) dL_power_16 (by decide) ?_
      exact qq_iret dL_power_17 rfl rfl ⟨1, n, S, rfl, hS, ho, lsx_r (sm_r hp), (Or.inr (Or.inr ⟨rfl, zg0, zf, rfl, rfl⟩))⟩
set_option maxRecDepth 4000 in
theorem mt_L_lessen (hp : qq_H) (S : sX) (hS : cs_X S hp) (o : Nat) (n : Int64) (sv : Value) (ho : hp.2 o = .inr (3, [.long n, sv])) (hoE : 84 ≤ o) (p0 p1 : Int32) : qq_Mt mL_lessen [.ref 80, .int p0, .int p1, .ref o] hp 2 12 (fun v hp' => ∃ (k : Int32) (n' : Int64) (S' : sX), v = some (.int k) ∧ cs_X S' hp' ∧ hp'.2 o = .inr (3, [.long n', sv]) ∧ ls_X o hp hp' ∧ ((k = 0 ∧ (¬ p0 < 0 ∧ ¬ 8 ≤ p0) ∧ (¬ p1 < 0 ∧ ¬ 8 ≤ p1) ∧ S' = (r_X5_lessen p0 p1 S).2 ∧ n' = (r_X5_lessen p0 p1 S).1.toInt64) ∨ (k = 1 ∧ (p0 < 0 ∨ 8 ≤ p0) ∧ S' = S ∧ n' = n) ∨ (k = 1 ∧ (¬ p0 < 0 ∧ ¬ 8 ≤ p0) ∧ (p1 < 0 ∨ 8 ≤ p1) ∧ S' = S ∧ n' = n))) (fun _ _ => False) := by
  refine qq_met pn_L (Nat.le_of_ble_eq_true rfl) (Nat.le_of_ble_eq_true rfl) kc_L_lessen ?_
  show qq_Go _ hp 2 12 0 [(0, .ref 80), (1, .int p0), (2, .int p1), (3, .ref o)] [] _ _
  refine qq_aload_n dL_lessen_0 rfl 3 rfl ?_
  refine qq_aload_n dL_lessen_1 rfl 0 rfl ?_
  refine qq_iload_n dL_lessen_2 rfl 1 rfl ?_
  refine qq_iload_n dL_lessen_3 rfl 2 rfl ?_
  refine qq_callV (bc := 0) (bs := 0) (mc := 2) (ms := 12) (o := 80) (ci := 2) (N := 6) (T := TX5) (as := [.int p0, .int p1]) (rest := [.ref o]) dL_lessen_4 hS.2.2.1 (by decide) rfl (mt_X5_lessen hp S hS p0 p1) rfl kl_L_49 kn_X5_lessen ke_X5_lessen ki_X5 kc_X5_lessen kd_X5_lessen rfl (by decide) (by decide) (Nat.le_of_ble_eq_true rfl) (fun v hp1 hv _ _ => ?_) (fun E hp1 zx _ _ => ?_)
  · obtain ⟨rfl, hS1, sM1, zg0, zg1⟩ := hv
    refine qq_i2l dL_lessen_7 ?_
    have ho1 : hp1.2 o = .inr (3, [.long n, sv]) := (sM1.2 o (Or.inr hoE)).trans ho
    refine qq_putN (C := RX6) (host := "QuarterpowersLaw") (T := TX6) (N := 2) (ty := .long) dL_lessen_8 ho1 (show 80 ≤ o by omega) rfl 0 (by decide) (Nat.le_of_ble_eq_true rfl) ku_X6 (by decide +kernel) tyX6 tyX6_ok nmX6 rfl (by decide +kernel) (fun _ => rfl) (fun _ => rfl) ?_
    refine qq_goto (tgt := 18) dL_lessen_11 (by decide) ?_
    refine qq_iconst (v := 0) dL_lessen_18 (by decide) ?_
    exact qq_iret dL_lessen_19 rfl rfl ⟨0, (r_X5_lessen p0 p1 S).1.toInt64, (r_X5_lessen p0 p1 S).2, rfl, cs_up hS1 hoE, up_p, lsx_p sM1, Or.inl ⟨rfl, zg0, zg1, rfl, rfl⟩⟩
  · obtain ⟨rfl, zx⟩ := zx
    rcases zx with zx | zx
    · obtain ⟨rfl, zf⟩ := zx
      refine qq_catch (name := "java/lang/IndexOutOfBoundsException") (n := 14) (loc' := [(0, .ref 80), (1, .int p0), (2, .int p1), (3, .ref o)]) [] (0, 11, 14, 19) [] rfl (fun z hz => nomatch hz) (fun z hz => by obtain rfl := List.mem_singleton.mp hz; exact ⟨rfl, by decide, kl_L_19, rfl⟩) rfl rfl (by decide +kernel) (i := 4) (ln := 2) [0, 1, 2, 3] (Or.inr ⟨dL_lessen_14, rfl⟩) (Nat.le_of_ble_eq_true rfl) rfl ?_
      refine qq_iconst (v := 1) dL_lessen_16 (by decide) ?_
      exact qq_iret dL_lessen_17 rfl rfl ⟨1, n, S, rfl, hS, ho, lsx_r (sm_r hp), (Or.inr (Or.inl ⟨rfl, zf, rfl, rfl⟩))⟩
    · obtain ⟨rfl, zg0, zf⟩ := zx
      refine qq_catch (name := "java/lang/IndexOutOfBoundsException") (n := 14) (loc' := [(0, .ref 80), (1, .int p0), (2, .int p1), (3, .ref o)]) [] (0, 11, 14, 19) [] rfl (fun z hz => nomatch hz) (fun z hz => by obtain rfl := List.mem_singleton.mp hz; exact ⟨rfl, by decide, kl_L_19, rfl⟩) rfl rfl (by decide +kernel) (i := 4) (ln := 2) [0, 1, 2, 3] (Or.inr ⟨dL_lessen_14, rfl⟩) (Nat.le_of_ble_eq_true rfl) rfl ?_
      refine qq_iconst (v := 1) dL_lessen_16 (by decide) ?_
      exact qq_iret dL_lessen_17 rfl rfl ⟨1, n, S, rfl, hS, ho, lsx_r (sm_r hp), (Or.inr (Or.inr ⟨rfl, zg0, zf, rfl, rfl⟩))⟩
set_option maxRecDepth 4000 in
theorem mt_L_log (hp : qq_H) (S : sX) (hS : cs_X S hp) (o : Nat) (n : Int64) (sv : Value) (ho : hp.2 o = .inr (3, [.long n, sv])) (hoE : 84 ≤ o) (p0 p1 : Int32) : qq_Mt mL_log [.ref 80, .int p0, .int p1, .ref o] hp 2 12 (fun v hp' => ∃ (k : Int32) (n' : Int64) (S' : sX), v = some (.int k) ∧ cs_X S' hp' ∧ hp'.2 o = .inr (3, [.long n', sv]) ∧ ls_X o hp hp' ∧ ((k = 0 ∧ (¬ p0 < 0 ∧ ¬ 8 ≤ p0) ∧ (¬ p1 < 0 ∧ ¬ 8 ≤ p1) ∧ S' = (r_X5_log p0 p1 S).2 ∧ n' = (r_X5_log p0 p1 S).1.toInt64) ∨ (k = 1 ∧ (p0 < 0 ∨ 8 ≤ p0) ∧ S' = S ∧ n' = n) ∨ (k = 1 ∧ (¬ p0 < 0 ∧ ¬ 8 ≤ p0) ∧ (p1 < 0 ∨ 8 ≤ p1) ∧ S' = S ∧ n' = n))) (fun _ _ => False) := by
  refine qq_met pn_L (Nat.le_of_ble_eq_true rfl) (Nat.le_of_ble_eq_true rfl) kc_L_log ?_
  show qq_Go _ hp 2 12 0 [(0, .ref 80), (1, .int p0), (2, .int p1), (3, .ref o)] [] _ _
  refine qq_aload_n dL_log_0 rfl 3 rfl ?_
  refine qq_aload_n dL_log_1 rfl 0 rfl ?_
  refine qq_iload_n dL_log_2 rfl 1 rfl ?_
  refine qq_iload_n dL_log_3 rfl 2 rfl ?_
  refine qq_callV (bc := 0) (bs := 0) (mc := 2) (ms := 12) (o := 80) (ci := 2) (N := 6) (T := TX5) (as := [.int p0, .int p1]) (rest := [.ref o]) dL_log_4 hS.2.2.1 (by decide) rfl (mt_X5_log hp S hS p0 p1) rfl kl_L_52 kn_X5_log ke_X5_log ki_X5 kc_X5_log kd_X5_log rfl (by decide) (by decide) (Nat.le_of_ble_eq_true rfl) (fun v hp1 hv _ _ => ?_) (fun E hp1 zx _ _ => ?_)
  · obtain ⟨rfl, hS1, sM1, zg0, zg1⟩ := hv
    refine qq_i2l dL_log_7 ?_
    have ho1 : hp1.2 o = .inr (3, [.long n, sv]) := (sM1.2 o (Or.inr hoE)).trans ho
    refine qq_putN (C := RX6) (host := "QuarterpowersLaw") (T := TX6) (N := 2) (ty := .long) dL_log_8 ho1 (show 80 ≤ o by omega) rfl 0 (by decide) (Nat.le_of_ble_eq_true rfl) ku_X6 (by decide +kernel) tyX6 tyX6_ok nmX6 rfl (by decide +kernel) (fun _ => rfl) (fun _ => rfl) ?_
    refine qq_goto (tgt := 18) dL_log_11 (by decide) ?_
    refine qq_iconst (v := 0) dL_log_18 (by decide) ?_
    exact qq_iret dL_log_19 rfl rfl ⟨0, (r_X5_log p0 p1 S).1.toInt64, (r_X5_log p0 p1 S).2, rfl, cs_up hS1 hoE, up_p, lsx_p sM1, Or.inl ⟨rfl, zg0, zg1, rfl, rfl⟩⟩
  · obtain ⟨rfl, zx⟩ := zx
    rcases zx with zx | zx
    · obtain ⟨rfl, zf⟩ := zx
      refine qq_catch (name := "java/lang/IndexOutOfBoundsException") (n := 14) (loc' := [(0, .ref 80), (1, .int p0), (2, .int p1), (3, .ref o)]) [] (0, 11, 14, 19) [] rfl (fun z hz => nomatch hz) (fun z hz => by obtain rfl := List.mem_singleton.mp hz; exact ⟨rfl, by decide, kl_L_19, rfl⟩) rfl rfl (by decide +kernel) (i := 4) (ln := 2) [0, 1, 2, 3] (Or.inr ⟨dL_log_14, rfl⟩) (Nat.le_of_ble_eq_true rfl) rfl ?_
      refine qq_iconst (v := 1) dL_log_16 (by decide) ?_
      exact qq_iret dL_log_17 rfl rfl ⟨1, n, S, rfl, hS, ho, lsx_r (sm_r hp), (Or.inr (Or.inl ⟨rfl, zf, rfl, rfl⟩))⟩
    · obtain ⟨rfl, zg0, zf⟩ := zx
      refine qq_catch (name := "java/lang/IndexOutOfBoundsException") (n := 14) (loc' := [(0, .ref 80), (1, .int p0), (2, .int p1), (3, .ref o)]) [] (0, 11, 14, 19) [] rfl (fun z hz => nomatch hz) (fun z hz => by obtain rfl := List.mem_singleton.mp hz; exact ⟨rfl, by decide, kl_L_19, rfl⟩) rfl rfl (by decide +kernel) (i := 4) (ln := 2) [0, 1, 2, 3] (Or.inr ⟨dL_log_14, rfl⟩) (Nat.le_of_ble_eq_true rfl) rfl ?_
      refine qq_iconst (v := 1) dL_log_16 (by decide) ?_
      exact qq_iret dL_log_17 rfl rfl ⟨1, n, S, rfl, hS, ho, lsx_r (sm_r hp), (Or.inr (Or.inr ⟨rfl, zg0, zf, rfl, rfl⟩))⟩
set_option maxRecDepth 4000 in
theorem mt_L_all (hp : qq_H) (S : sX) (hS : cs_X S hp) (o : Nat) (n : Int64) (sv : Value) (ho : hp.2 o = .inr (3, [.long n, sv])) (hoE : 84 ≤ o) (p0 : Int32) : qq_Mt mL_all [.ref 80, .int p0, .ref o] hp 1 6 (fun v hp' => ∃ (k : Int32) (n' : Int64) (S' : sX), v = some (.int k) ∧ cs_X S' hp' ∧ hp'.2 o = .inr (3, [.long n', sv]) ∧ ls_X o hp hp' ∧ ((k = 0 ∧ (¬ p0 < 1 ∧ ¬ 3 < p0) ∧ S' = (r_X5_all p0 S).2 ∧ n' = (r_X5_all p0 S).1.toInt64) ∨ (k = 1 ∧ (p0 < 1 ∨ 3 < p0) ∧ S' = S ∧ n' = n))) (fun _ _ => False) := by
  refine qq_met pn_L (Nat.le_of_ble_eq_true rfl) (Nat.le_of_ble_eq_true rfl) kc_L_all ?_
  show qq_Go _ hp 1 6 0 [(0, .ref 80), (1, .int p0), (2, .ref o)] [] _ _
  refine qq_aload_n dL_all_0 rfl 2 rfl ?_
  refine qq_aload_n dL_all_1 rfl 0 rfl ?_
  refine qq_iload_n dL_all_2 rfl 1 rfl ?_
  refine qq_callV (bc := 0) (bs := 0) (mc := 1) (ms := 6) (o := 80) (ci := 2) (N := 6) (T := TX5) (as := [.int p0]) (rest := [.ref o]) dL_all_3 hS.2.2.1 (by decide) rfl (mt_X5_all hp S hS p0) rfl kl_L_55 kn_X5_all ke_X5_all ki_X5 kc_X5_all kd_X5_all rfl (by decide) (by decide) (Nat.le_of_ble_eq_true rfl) (fun v hp1 hv _ _ => ?_) (fun E hp1 zx _ _ => ?_)
  · obtain ⟨rfl, hS1, sM1, zg0⟩ := hv
    refine qq_i2l dL_all_6 ?_
    have ho1 : hp1.2 o = .inr (3, [.long n, sv]) := (sM1.2 o (Or.inr hoE)).trans ho
    refine qq_putN (C := RX6) (host := "QuarterpowersLaw") (T := TX6) (N := 2) (ty := .long) dL_all_7 ho1 (show 80 ≤ o by omega) rfl 0 (by decide) (Nat.le_of_ble_eq_true rfl) ku_X6 (by decide +kernel) tyX6 tyX6_ok nmX6 rfl (by decide +kernel) (fun _ => rfl) (fun _ => rfl) ?_
    refine qq_goto (tgt := 16) dL_all_10 (by decide) ?_
    refine qq_iconst (v := 0) dL_all_16 (by decide) ?_
    exact qq_iret dL_all_17 rfl rfl ⟨0, (r_X5_all p0 S).1.toInt64, (r_X5_all p0 S).2, rfl, cs_up hS1 hoE, up_p, lsx_p sM1, Or.inl ⟨rfl, zg0, rfl, rfl⟩⟩
  · obtain ⟨rfl, zx⟩ := zx
    obtain ⟨rfl, zf⟩ := zx
    refine qq_catch (name := "java/lang/IllegalArgumentException") (n := 13) (loc' := [(0, .ref 80), (1, .int p0), (2, .ref o)]) [] (0, 10, 13, 21) [] rfl (fun z hz => nomatch hz) (fun z hz => by obtain rfl := List.mem_singleton.mp hz; exact ⟨rfl, by decide, kl_L_21, rfl⟩) rfl rfl (by decide +kernel) (i := 3) (ln := 1) [0, 1, 2] (Or.inl ⟨dL_all_13, by decide, rfl⟩) (Nat.le_of_ble_eq_true rfl) rfl ?_
    refine qq_iconst (v := 1) dL_all_14 (by decide) ?_
    exact qq_iret dL_all_15 rfl rfl ⟨1, n, S, rfl, hS, ho, lsx_r (sm_r hp), (Or.inr ⟨rfl, zf, rfl, rfl⟩)⟩
set_option maxRecDepth 4000 in
theorem mt_L_greater (hp : qq_H) (S : sX) (hS : cs_X S hp) (o : Nat) (n : Int64) (sv : Value) (ho : hp.2 o = .inr (3, [.long n, sv])) (hoE : 84 ≤ o) (p0 p1 p2 : Int32) : qq_Mt mL_greater [.ref 80, .int p0, .int p1, .int p2, .ref o] hp 3 18 (fun v hp' => ∃ (k : Int32) (n' : Int64) (S' : sX), v = some (.int k) ∧ cs_X S' hp' ∧ hp'.2 o = .inr (3, [.long n', sv]) ∧ ls_X o hp hp' ∧ ((k = 0 ∧ (¬ p0 < 0 ∧ ¬ 8 ≤ p0) ∧ (¬ p1 < 0 ∧ ¬ 8 ≤ p1) ∧ (¬ p2 < 0 ∧ ¬ 8 ≤ p2) ∧ S' = (r_X5_greater p0 p1 p2 S).2 ∧ n' = (r_X5_greater p0 p1 p2 S).1.toInt64) ∨ (k = 1 ∧ (p0 < 0 ∨ 8 ≤ p0) ∧ S' = S ∧ n' = n) ∨ (k = 1 ∧ (¬ p0 < 0 ∧ ¬ 8 ≤ p0) ∧ (p1 < 0 ∨ 8 ≤ p1) ∧ S' = S ∧ n' = n) ∨ (k = 1 ∧ (¬ p0 < 0 ∧ ¬ 8 ≤ p0) ∧ (¬ p1 < 0 ∧ ¬ 8 ≤ p1) ∧ (p2 < 0 ∨ 8 ≤ p2) ∧ S' = S ∧ n' = n))) (fun _ _ => False) := by
  refine qq_met pn_L (Nat.le_of_ble_eq_true rfl) (Nat.le_of_ble_eq_true rfl) kc_L_greater ?_
  show qq_Go _ hp 3 18 0 [(0, .ref 80), (1, .int p0), (2, .int p1), (3, .int p2), (4, .ref o)] [] _ _
  refine qq_aload dL_greater_0 4 rfl ?_
  refine qq_aload_n dL_greater_2 rfl 0 rfl ?_
  refine qq_iload_n dL_greater_3 rfl 1 rfl ?_
  refine qq_iload_n dL_greater_4 rfl 2 rfl ?_
  refine qq_iload_n dL_greater_5 rfl 3 rfl ?_
  refine qq_callV (bc := 0) (bs := 0) (mc := 3) (ms := 18) (o := 80) (ci := 2) (N := 6) (T := TX5) (as := [.int p0, .int p1, .int p2]) (rest := [.ref o]) dL_greater_6 hS.2.2.1 (by decide) rfl (mt_X5_greater hp S hS p0 p1 p2) rfl kl_L_58 kn_X5_greater ke_X5_greater ki_X5 kc_X5_greater kd_X5_greater rfl (by decide) (by decide) (Nat.le_of_ble_eq_true rfl) (fun v hp1 hv _ _ => ?_) (fun E hp1 zx _ _ => ?_)
  · obtain ⟨rfl, hS1, sM1, zg0, zg1, zg2⟩ := hv
    refine qq_i2l dL_greater_9 ?_
    have ho1 : hp1.2 o = .inr (3, [.long n, sv]) := (sM1.2 o (Or.inr hoE)).trans ho
    refine qq_putN (C := RX6) (host := "QuarterpowersLaw") (T := TX6) (N := 2) (ty := .long) dL_greater_10 ho1 (show 80 ≤ o by omega) rfl 0 (by decide) (Nat.le_of_ble_eq_true rfl) ku_X6 (by decide +kernel) tyX6 tyX6_ok nmX6 rfl (by decide +kernel) (fun _ => rfl) (fun _ => rfl) ?_
    refine qq_goto (tgt := 20) dL_greater_13 (by decide) ?_
    refine qq_iconst (v := 0) dL_greater_20 (by decide) ?_
    exact qq_iret dL_greater_21 rfl rfl ⟨0, (r_X5_greater p0 p1 p2 S).1.toInt64, (r_X5_greater p0 p1 p2 S).2, rfl, cs_up hS1 hoE, up_p, lsx_p sM1, Or.inl ⟨rfl, zg0, zg1, zg2, rfl, rfl⟩⟩
  · obtain ⟨rfl, zx⟩ := zx
    rcases zx with zx | zx
    · obtain ⟨rfl, zf⟩ := zx
      refine qq_catch (name := "java/lang/IndexOutOfBoundsException") (n := 16) (loc' := [(0, .ref 80), (1, .int p0), (2, .int p1), (3, .int p2), (4, .ref o)]) [] (0, 13, 16, 19) [] rfl (fun z hz => nomatch hz) (fun z hz => by obtain rfl := List.mem_singleton.mp hz; exact ⟨rfl, by decide, kl_L_19, rfl⟩) rfl rfl (by decide +kernel) (i := 5) (ln := 2) [0, 1, 2, 3, 4] (Or.inr ⟨dL_greater_16, rfl⟩) (Nat.le_of_ble_eq_true rfl) rfl ?_
      refine qq_iconst (v := 1) dL_greater_18 (by decide) ?_
      exact qq_iret dL_greater_19 rfl rfl ⟨1, n, S, rfl, hS, ho, lsx_r (sm_r hp), (Or.inr (Or.inl ⟨rfl, zf, rfl, rfl⟩))⟩
    · rcases zx with zx | zx
      · obtain ⟨rfl, zg0, zf⟩ := zx
        refine qq_catch (name := "java/lang/IndexOutOfBoundsException") (n := 16) (loc' := [(0, .ref 80), (1, .int p0), (2, .int p1), (3, .int p2), (4, .ref o)]) [] (0, 13, 16, 19) [] rfl (fun z hz => nomatch hz) (fun z hz => by obtain rfl := List.mem_singleton.mp hz; exact ⟨rfl, by decide, kl_L_19, rfl⟩) rfl rfl (by decide +kernel) (i := 5) (ln := 2) [0, 1, 2, 3, 4] (Or.inr ⟨dL_greater_16, rfl⟩) (Nat.le_of_ble_eq_true rfl) rfl ?_
        refine qq_iconst (v := 1) dL_greater_18 (by decide) ?_
        exact qq_iret dL_greater_19 rfl rfl ⟨1, n, S, rfl, hS, ho, lsx_r (sm_r hp), (Or.inr (Or.inr (Or.inl ⟨rfl, zg0, zf, rfl, rfl⟩)))⟩
      · obtain ⟨rfl, zg0, zg1, zf⟩ := zx
        refine qq_catch (name := "java/lang/IndexOutOfBoundsException") (n := 16) (loc' := [(0, .ref 80), (1, .int p0), (2, .int p1), (3, .int p2), (4, .ref o)]) [] (0, 13, 16, 19) [] rfl (fun z hz => nomatch hz) (fun z hz => by obtain rfl := List.mem_singleton.mp hz; exact ⟨rfl, by decide, kl_L_19, rfl⟩) rfl rfl (by decide +kernel) (i := 5) (ln := 2) [0, 1, 2, 3, 4] (Or.inr ⟨dL_greater_16, rfl⟩) (Nat.le_of_ble_eq_true rfl) rfl ?_
        refine qq_iconst (v := 1) dL_greater_18 (by decide) ?_
        exact qq_iret dL_greater_19 rfl rfl ⟨1, n, S, rfl, hS, ho, lsx_r (sm_r hp), (Or.inr (Or.inr (Or.inr ⟨rfl, zg0, zg1, zf, rfl, rfl⟩)))⟩
set_option maxRecDepth 4000 in
theorem mt_L_lesser (hp : qq_H) (S : sX) (hS : cs_X S hp) (o : Nat) (n : Int64) (sv : Value) (ho : hp.2 o = .inr (3, [.long n, sv])) (hoE : 84 ≤ o) (p0 p1 p2 : Int32) : qq_Mt mL_lesser [.ref 80, .int p0, .int p1, .int p2, .ref o] hp 3 18 (fun v hp' => ∃ (k : Int32) (n' : Int64) (S' : sX), v = some (.int k) ∧ cs_X S' hp' ∧ hp'.2 o = .inr (3, [.long n', sv]) ∧ ls_X o hp hp' ∧ ((k = 0 ∧ (¬ p0 < 0 ∧ ¬ 8 ≤ p0) ∧ (¬ p1 < 0 ∧ ¬ 8 ≤ p1) ∧ (¬ p2 < 0 ∧ ¬ 8 ≤ p2) ∧ S' = (r_X5_lesser p0 p1 p2 S).2 ∧ n' = (r_X5_lesser p0 p1 p2 S).1.toInt64) ∨ (k = 1 ∧ (p0 < 0 ∨ 8 ≤ p0) ∧ S' = S ∧ n' = n) ∨ (k = 1 ∧ (¬ p0 < 0 ∧ ¬ 8 ≤ p0) ∧ (p1 < 0 ∨ 8 ≤ p1) ∧ S' = S ∧ n' = n) ∨ (k = 1 ∧ (¬ p0 < 0 ∧ ¬ 8 ≤ p0) ∧ (¬ p1 < 0 ∧ ¬ 8 ≤ p1) ∧ (p2 < 0 ∨ 8 ≤ p2) ∧ S' = S ∧ n' = n))) (fun _ _ => False) := by
  refine qq_met pn_L (Nat.le_of_ble_eq_true rfl) (Nat.le_of_ble_eq_true rfl) kc_L_lesser ?_
  show qq_Go _ hp 3 18 0 [(0, .ref 80), (1, .int p0), (2, .int p1), (3, .int p2), (4, .ref o)] [] _ _
  refine qq_aload dL_lesser_0 4 rfl ?_
  refine qq_aload_n dL_lesser_2 rfl 0 rfl ?_
  refine qq_iload_n dL_lesser_3 rfl 1 rfl ?_
  refine qq_iload_n dL_lesser_4 rfl 2 rfl ?_
  refine qq_iload_n dL_lesser_5 rfl 3 rfl ?_
  refine qq_callV (bc := 0) (bs := 0) (mc := 3) (ms := 18) (o := 80) (ci := 2) (N := 6) (T := TX5) (as := [.int p0, .int p1, .int p2]) (rest := [.ref o]) dL_lesser_6 hS.2.2.1 (by decide) rfl (mt_X5_lesser hp S hS p0 p1 p2) rfl kl_L_62 kn_X5_lesser ke_X5_lesser ki_X5 kc_X5_lesser kd_X5_lesser rfl (by decide) (by decide) (Nat.le_of_ble_eq_true rfl) (fun v hp1 hv _ _ => ?_) (fun E hp1 zx _ _ => ?_)
  · obtain ⟨rfl, hS1, sM1, zg0, zg1, zg2⟩ := hv
    refine qq_i2l dL_lesser_9 ?_
    have ho1 : hp1.2 o = .inr (3, [.long n, sv]) := (sM1.2 o (Or.inr hoE)).trans ho
    refine qq_putN (C := RX6) (host := "QuarterpowersLaw") (T := TX6) (N := 2) (ty := .long) dL_lesser_10 ho1 (show 80 ≤ o by omega) rfl 0 (by decide) (Nat.le_of_ble_eq_true rfl) ku_X6 (by decide +kernel) tyX6 tyX6_ok nmX6 rfl (by decide +kernel) (fun _ => rfl) (fun _ => rfl) ?_
    refine qq_goto (tgt := 20) dL_lesser_13 (by decide) ?_
    refine qq_iconst (v := 0) dL_lesser_20 (by decide) ?_
    exact qq_iret dL_lesser_21 rfl rfl ⟨0, (r_X5_lesser p0 p1 p2 S).1.toInt64, (r_X5_lesser p0 p1 p2 S).2, rfl, cs_up hS1 hoE, up_p, lsx_p sM1, Or.inl ⟨rfl, zg0, zg1, zg2, rfl, rfl⟩⟩
  · obtain ⟨rfl, zx⟩ := zx
    rcases zx with zx | zx
    · obtain ⟨rfl, zf⟩ := zx
      refine qq_catch (name := "java/lang/IndexOutOfBoundsException") (n := 16) (loc' := [(0, .ref 80), (1, .int p0), (2, .int p1), (3, .int p2), (4, .ref o)]) [] (0, 13, 16, 19) [] rfl (fun z hz => nomatch hz) (fun z hz => by obtain rfl := List.mem_singleton.mp hz; exact ⟨rfl, by decide, kl_L_19, rfl⟩) rfl rfl (by decide +kernel) (i := 5) (ln := 2) [0, 1, 2, 3, 4] (Or.inr ⟨dL_lesser_16, rfl⟩) (Nat.le_of_ble_eq_true rfl) rfl ?_
      refine qq_iconst (v := 1) dL_lesser_18 (by decide) ?_
      exact qq_iret dL_lesser_19 rfl rfl ⟨1, n, S, rfl, hS, ho, lsx_r (sm_r hp), (Or.inr (Or.inl ⟨rfl, zf, rfl, rfl⟩))⟩
    · rcases zx with zx | zx
      · obtain ⟨rfl, zg0, zf⟩ := zx
        refine qq_catch (name := "java/lang/IndexOutOfBoundsException") (n := 16) (loc' := [(0, .ref 80), (1, .int p0), (2, .int p1), (3, .int p2), (4, .ref o)]) [] (0, 13, 16, 19) [] rfl (fun z hz => nomatch hz) (fun z hz => by obtain rfl := List.mem_singleton.mp hz; exact ⟨rfl, by decide, kl_L_19, rfl⟩) rfl rfl (by decide +kernel) (i := 5) (ln := 2) [0, 1, 2, 3, 4] (Or.inr ⟨dL_lesser_16, rfl⟩) (Nat.le_of_ble_eq_true rfl) rfl ?_
        refine qq_iconst (v := 1) dL_lesser_18 (by decide) ?_
        exact qq_iret dL_lesser_19 rfl rfl ⟨1, n, S, rfl, hS, ho, lsx_r (sm_r hp), (Or.inr (Or.inr (Or.inl ⟨rfl, zg0, zf, rfl, rfl⟩)))⟩
      · obtain ⟨rfl, zg0, zg1, zf⟩ := zx
        refine qq_catch (name := "java/lang/IndexOutOfBoundsException") (n := 16) (loc' := [(0, .ref 80), (1, .int p0), (2, .int p1), (3, .int p2), (4, .ref o)]) [] (0, 13, 16, 19) [] rfl (fun z hz => nomatch hz) (fun z hz => by obtain rfl := List.mem_singleton.mp hz; exact ⟨rfl, by decide, kl_L_19, rfl⟩) rfl rfl (by decide +kernel) (i := 5) (ln := 2) [0, 1, 2, 3, 4] (Or.inr ⟨dL_lesser_16, rfl⟩) (Nat.le_of_ble_eq_true rfl) rfl ?_
        refine qq_iconst (v := 1) dL_lesser_18 (by decide) ?_
        exact qq_iret dL_lesser_19 rfl rfl ⟨1, n, S, rfl, hS, ho, lsx_r (sm_r hp), (Or.inr (Or.inr (Or.inr ⟨rfl, zg0, zg1, zf, rfl, rfl⟩)))⟩
set_option maxRecDepth 4000 in
theorem mt_L_end (hp : qq_H) (S : sX) (hS : cs_X S hp) (o : Nat) (n : Int64) (sv : Value) (ho : hp.2 o = .inr (3, [.long n, sv])) (hoE : 84 ≤ o) (p0 p1 : Int32) : qq_Mt mL_end [.ref 80, .int p0, .int p1, .ref o] hp 1 6 (fun v hp' => ∃ (k : Int32) (n' : Int64) (S' : sX), v = some (.int k) ∧ cs_X S' hp' ∧ hp'.2 o = .inr (3, [.long n', sv]) ∧ ls_X o hp hp' ∧ ((k = 0 ∧ (¬ p1 < 0 ∧ ¬ 8 ≤ p1) ∧ S' = (r_X5_end p0 p1 S).2 ∧ n' = (r_X5_end p0 p1 S).1.toInt64) ∨ (k = 1 ∧ (p1 < 0 ∨ 8 ≤ p1) ∧ S' = S ∧ n' = n))) (fun _ _ => False) := by
  refine qq_met pn_L (Nat.le_of_ble_eq_true rfl) (Nat.le_of_ble_eq_true rfl) kc_L_end ?_
  show qq_Go _ hp 1 6 0 [(0, .ref 80), (1, .int p0), (2, .int p1), (3, .ref o)] [] _ _
  refine qq_aload_n dL_end_0 rfl 3 rfl ?_
  refine qq_aload_n dL_end_1 rfl 0 rfl ?_
  refine qq_iload_n dL_end_2 rfl 1 rfl ?_
  refine qq_iload_n dL_end_3 rfl 2 rfl ?_
  refine qq_callV (bc := 0) (bs := 0) (mc := 1) (ms := 6) (o := 80) (ci := 2) (N := 6) (T := TX5) (as := [.int p0, .int p1]) (rest := [.ref o]) dL_end_4 hS.2.2.1 (by decide) rfl (mt_X5_end hp S hS p0 p1) rfl kl_L_65 kn_X5_end ke_X5_end ki_X5 kc_X5_end kd_X5_end rfl (by decide) (by decide) (Nat.le_of_ble_eq_true rfl) (fun v hp1 hv _ _ => ?_) (fun E hp1 zx _ _ => ?_)
  · obtain ⟨rfl, hS1, sM1, zg0⟩ := hv
    refine qq_i2l dL_end_7 ?_
    have ho1 : hp1.2 o = .inr (3, [.long n, sv]) := (sM1.2 o (Or.inr hoE)).trans ho
    refine qq_putN (C := RX6) (host := "QuarterpowersLaw") (T := TX6) (N := 2) (ty := .long) dL_end_8 ho1 (show 80 ≤ o by omega) rfl 0 (by decide) (Nat.le_of_ble_eq_true rfl) ku_X6 (by decide +kernel) tyX6 tyX6_ok nmX6 rfl (by decide +kernel) (fun _ => rfl) (fun _ => rfl) ?_
    refine qq_goto (tgt := 18) dL_end_11 (by decide) ?_
    refine qq_iconst (v := 0) dL_end_18 (by decide) ?_
    exact qq_iret dL_end_19 rfl rfl ⟨0, (r_X5_end p0 p1 S).1.toInt64, (r_X5_end p0 p1 S).2, rfl, cs_up hS1 hoE, up_p, lsx_p sM1, Or.inl ⟨rfl, zg0, rfl, rfl⟩⟩
  · obtain ⟨rfl, zx⟩ := zx
    obtain ⟨rfl, zf⟩ := zx
    refine qq_catch (name := "java/lang/IndexOutOfBoundsException") (n := 14) (loc' := [(0, .ref 80), (1, .int p0), (2, .int p1), (3, .ref o)]) [] (0, 11, 14, 19) [] rfl (fun z hz => nomatch hz) (fun z hz => by obtain rfl := List.mem_singleton.mp hz; exact ⟨rfl, by decide, kl_L_19, rfl⟩) rfl rfl (by decide +kernel) (i := 4) (ln := 2) [0, 1, 2, 3] (Or.inr ⟨dL_end_14, rfl⟩) (Nat.le_of_ble_eq_true rfl) rfl ?_
    refine qq_iconst (v := 1) dL_end_16 (by decide) ?_
    exact qq_iret dL_end_17 rfl rfl ⟨1, n, S, rfl, hS, ho, lsx_r (sm_r hp), (Or.inr ⟨rfl, zf, rfl, rfl⟩)⟩
set_option maxRecDepth 4000 in
theorem mt_L_kind (hp : qq_H) (S : sX) (hS : cs_X S hp) (o : Nat) (n : Int64) (sv : Value) (ho : hp.2 o = .inr (3, [.long n, sv])) (hoE : 84 ≤ o) (p0 : Int32) : qq_Mt mL_kind [.ref 80, .int p0, .ref o] hp 1 6 (fun v hp' => ∃ (k : Int32) (n' : Int64) (S' : sX), v = some (.int k) ∧ cs_X S' hp' ∧ hp'.2 o = .inr (3, [.long n', sv]) ∧ ls_X o hp hp' ∧ ((k = 0 ∧ (¬ p0 < 0 ∧ ¬ 8 ≤ p0) ∧ S' = S ∧ n' = (r_X5_kind p0 S).toInt64) ∨ (k = 1 ∧ (p0 < 0 ∨ 8 ≤ p0) ∧ S' = S ∧ n' = n))) (fun _ _ => False) := by
  refine qq_met pn_L (Nat.le_of_ble_eq_true rfl) (Nat.le_of_ble_eq_true rfl) kc_L_kind ?_
  show qq_Go _ hp 1 6 0 [(0, .ref 80), (1, .int p0), (2, .ref o)] [] _ _
  refine qq_aload_n dL_kind_0 rfl 2 rfl ?_
  refine qq_aload_n dL_kind_1 rfl 0 rfl ?_
  refine qq_iload_n dL_kind_2 rfl 1 rfl ?_
  refine qq_callV (bc := 0) (bs := 0) (mc := 1) (ms := 6) (o := 80) (ci := 2) (N := 6) (T := TX5) (as := [.int p0]) (rest := [.ref o]) dL_kind_3 hS.2.2.1 (by decide) rfl (mt_X5_kind hp S hS p0) rfl kl_L_69 kn_X5_kind ke_X5_kind ki_X5 kc_X5_kind kd_X5_kind rfl (by decide) (by decide) (Nat.le_of_ble_eq_true rfl) (fun v hp1 hv _ _ => ?_) (fun E hp1 zx _ _ => ?_)
  · obtain ⟨rfl, rfl, zg0⟩ := hv
    have hS1 := hS
    have sM1 := sm_r hp
    refine qq_i2l dL_kind_6 ?_
    have ho1 : hp.2 o = .inr (3, [.long n, sv]) := (sM1.2 o (Or.inr hoE)).trans ho
    refine qq_putN (C := RX6) (host := "QuarterpowersLaw") (T := TX6) (N := 2) (ty := .long) dL_kind_7 ho1 (show 80 ≤ o by omega) rfl 0 (by decide) (Nat.le_of_ble_eq_true rfl) ku_X6 (by decide +kernel) tyX6 tyX6_ok nmX6 rfl (by decide +kernel) (fun _ => rfl) (fun _ => rfl) ?_
    refine qq_goto (tgt := 16) dL_kind_10 (by decide) ?_
    refine qq_iconst (v := 0) dL_kind_16 (by decide) ?_
    exact qq_iret dL_kind_17 rfl rfl ⟨0, (r_X5_kind p0 S).toInt64, S, rfl, cs_up hS1 hoE, up_p, lsx_p sM1, Or.inl ⟨rfl, zg0, rfl, rfl⟩⟩
  · obtain ⟨rfl, zx⟩ := zx
    obtain ⟨rfl, zf⟩ := zx
    refine qq_catch (name := "java/lang/IndexOutOfBoundsException") (n := 13) (loc' := [(0, .ref 80), (1, .int p0), (2, .ref o)]) [] (0, 10, 13, 19) [] rfl (fun z hz => nomatch hz) (fun z hz => by obtain rfl := List.mem_singleton.mp hz; exact ⟨rfl, by decide, kl_L_19, rfl⟩) rfl rfl (by decide +kernel) (i := 3) (ln := 1) [0, 1, 2] (Or.inl ⟨dL_kind_13, by decide, rfl⟩) (Nat.le_of_ble_eq_true rfl) rfl ?_
    refine qq_iconst (v := 1) dL_kind_14 (by decide) ?_
    exact qq_iret dL_kind_15 rfl rfl ⟨1, n, S, rfl, hS, ho, lsx_r (sm_r hp), (Or.inr ⟨rfl, zf, rfl, rfl⟩)⟩
set_option maxRecDepth 4000 in
theorem mt_L_of (hp : qq_H) (S : sX) (hS : cs_X S hp) (o : Nat) (n : Int64) (sv : Value) (ho : hp.2 o = .inr (3, [.long n, sv])) (hoE : 84 ≤ o) (p0 : Int32) : qq_Mt mL_of [.ref 80, .int p0, .ref o] hp 1 6 (fun v hp' => ∃ (k : Int32) (n' : Int64) (S' : sX), v = some (.int k) ∧ cs_X S' hp' ∧ hp'.2 o = .inr (3, [.long n', sv]) ∧ ls_X o hp hp' ∧ ((k = 0 ∧ (¬ p0 < 0 ∧ ¬ 8 ≤ p0) ∧ S' = S ∧ n' = (r_X5_of p0 S).toInt64) ∨ (k = 1 ∧ (p0 < 0 ∨ 8 ≤ p0) ∧ S' = S ∧ n' = n))) (fun _ _ => False) := by
  refine qq_met pn_L (Nat.le_of_ble_eq_true rfl) (Nat.le_of_ble_eq_true rfl) kc_L_of ?_
  show qq_Go _ hp 1 6 0 [(0, .ref 80), (1, .int p0), (2, .ref o)] [] _ _
  refine qq_aload_n dL_of_0 rfl 2 rfl ?_
  refine qq_aload_n dL_of_1 rfl 0 rfl ?_
  refine qq_iload_n dL_of_2 rfl 1 rfl ?_
  refine qq_callV (bc := 0) (bs := 0) (mc := 1) (ms := 6) (o := 80) (ci := 2) (N := 6) (T := TX5) (as := [.int p0]) (rest := [.ref o]) dL_of_3 hS.2.2.1 (by decide) rfl (mt_X5_of hp S hS p0) rfl kl_L_72 kn_X5_of ke_X5_of ki_X5 kc_X5_of kd_X5_of rfl (by decide) (by decide) (Nat.le_of_ble_eq_true rfl) (fun v hp1 hv _ _ => ?_) (fun E hp1 zx _ _ => ?_)
  · obtain ⟨rfl, rfl, zg0⟩ := hv
    have hS1 := hS
    have sM1 := sm_r hp
    refine qq_i2l dL_of_6 ?_
    have ho1 : hp.2 o = .inr (3, [.long n, sv]) := (sM1.2 o (Or.inr hoE)).trans ho
    refine qq_putN (C := RX6) (host := "QuarterpowersLaw") (T := TX6) (N := 2) (ty := .long) dL_of_7 ho1 (show 80 ≤ o by omega) rfl 0 (by decide) (Nat.le_of_ble_eq_true rfl) ku_X6 (by decide +kernel) tyX6 tyX6_ok nmX6 rfl (by decide +kernel) (fun _ => rfl) (fun _ => rfl) ?_
    refine qq_goto (tgt := 16) dL_of_10 (by decide) ?_
    refine qq_iconst (v := 0) dL_of_16 (by decide) ?_
    exact qq_iret dL_of_17 rfl rfl ⟨0, (r_X5_of p0 S).toInt64, S, rfl, cs_up hS1 hoE, up_p, lsx_p sM1, Or.inl ⟨rfl, zg0, rfl, rfl⟩⟩
  · obtain ⟨rfl, zx⟩ := zx
    obtain ⟨rfl, zf⟩ := zx
    refine qq_catch (name := "java/lang/IndexOutOfBoundsException") (n := 13) (loc' := [(0, .ref 80), (1, .int p0), (2, .ref o)]) [] (0, 10, 13, 19) [] rfl (fun z hz => nomatch hz) (fun z hz => by obtain rfl := List.mem_singleton.mp hz; exact ⟨rfl, by decide, kl_L_19, rfl⟩) rfl rfl (by decide +kernel) (i := 3) (ln := 1) [0, 1, 2] (Or.inl ⟨dL_of_13, by decide, rfl⟩) (Nat.le_of_ble_eq_true rfl) rfl ?_
    refine qq_iconst (v := 1) dL_of_14 (by decide) ?_
    exact qq_iret dL_of_15 rfl rfl ⟨1, n, S, rfl, hS, ho, lsx_r (sm_r hp), (Or.inr ⟨rfl, zf, rfl, rfl⟩)⟩
set_option maxRecDepth 4000 in
theorem mt_L_isBelow (hp : qq_H) (S : sX) (hS : cs_X S hp) (o : Nat) (n : Int64) (sv : Value) (ho : hp.2 o = .inr (3, [.long n, sv])) (hoE : 84 ≤ o) (p0 : Int32) : qq_Mt mL_isBelow [.ref 80, .int p0, .ref o] hp 1 6 (fun v hp' => ∃ (k : Int32) (n' : Int64) (S' : sX), v = some (.int k) ∧ cs_X S' hp' ∧ hp'.2 o = .inr (3, [.long n', sv]) ∧ ls_X o hp hp' ∧ ((k = 0 ∧ (¬ p0 < 0 ∧ ¬ 8 ≤ p0) ∧ S' = S ∧ n' = if (r_X5_isBelow p0 S) = 0 then 0 else 1) ∨ (k = 1 ∧ (p0 < 0 ∨ 8 ≤ p0) ∧ S' = S ∧ n' = n))) (fun _ _ => False) := by
  refine qq_met pn_L (Nat.le_of_ble_eq_true rfl) (Nat.le_of_ble_eq_true rfl) kc_L_isBelow ?_
  show qq_Go _ hp 1 6 0 [(0, .ref 80), (1, .int p0), (2, .ref o)] [] _ _
  refine qq_aload_n dL_isBelow_0 rfl 2 rfl ?_
  refine qq_aload_n dL_isBelow_1 rfl 0 rfl ?_
  refine qq_iload_n dL_isBelow_2 rfl 1 rfl ?_
  refine qq_callV (bc := 0) (bs := 0) (mc := 1) (ms := 6) (o := 80) (ci := 2) (N := 6) (T := TX5) (as := [.int p0]) (rest := [.ref o]) dL_isBelow_3 hS.2.2.1 (by decide) rfl (mt_X5_isBelow hp S hS p0) rfl kl_L_75 kn_X5_isBelow ke_X5_isBelow ki_X5 kc_X5_isBelow kd_X5_isBelow rfl (by decide) (by decide) (Nat.le_of_ble_eq_true rfl) (fun v hp1 hv _ _ => ?_) (fun E hp1 zx _ _ => ?_)
  · obtain ⟨rfl, rfl, zg0⟩ := hv
    have hS1 := hS
    have sM1 := sm_r hp
    refine qq_if_eq (tgt := 13) dL_isBelow_6 (by decide) (fun zc => ?_) (fun zc => ?_)
    · refine qq_lconst (v := 0) dL_isBelow_13 (by decide) ?_
      have ho1 : hp.2 o = .inr (3, [.long n, sv]) := (sM1.2 o (Or.inr hoE)).trans ho
      refine qq_putN (C := RX6) (host := "QuarterpowersLaw") (T := TX6) (N := 2) (ty := .long) dL_isBelow_14 ho1 (show 80 ≤ o by omega) rfl 0 (by decide) (Nat.le_of_ble_eq_true rfl) ku_X6 (by decide +kernel) tyX6 tyX6_ok nmX6 rfl (by decide +kernel) (fun _ => rfl) (fun _ => rfl) ?_
      refine qq_goto (tgt := 23) dL_isBelow_17 (by decide) ?_
      refine qq_iconst (v := 0) dL_isBelow_23 (by decide) ?_
      exact qq_iret dL_isBelow_24 rfl rfl ⟨0, 0, S, rfl, cs_up hS1 hoE, up_p, lsx_p sM1, Or.inl ⟨rfl, zg0, rfl, by rw [if_pos zc]⟩⟩
    · refine qq_lconst (v := 1) dL_isBelow_9 (by decide) ?_
      refine qq_goto (tgt := 14) dL_isBelow_10 (by decide) ?_
      have ho1 : hp.2 o = .inr (3, [.long n, sv]) := (sM1.2 o (Or.inr hoE)).trans ho
      refine qq_putN (C := RX6) (host := "QuarterpowersLaw") (T := TX6) (N := 2) (ty := .long) dL_isBelow_14 ho1 (show 80 ≤ o by omega) rfl 0 (by decide) (Nat.le_of_ble_eq_true rfl) ku_X6 (by decide +kernel) tyX6 tyX6_ok nmX6 rfl (by decide +kernel) (fun _ => rfl) (fun _ => rfl) ?_
      refine qq_goto (tgt := 23) dL_isBelow_17 (by decide) ?_
      refine qq_iconst (v := 0) dL_isBelow_23 (by decide) ?_
      exact qq_iret dL_isBelow_24 rfl rfl ⟨0, 1, S, rfl, cs_up hS1 hoE, up_p, lsx_p sM1, Or.inl ⟨rfl, zg0, rfl, by rw [if_neg zc]⟩⟩
  · obtain ⟨rfl, zx⟩ := zx
    obtain ⟨rfl, zf⟩ := zx
    refine qq_catch (name := "java/lang/IndexOutOfBoundsException") (n := 20) (loc' := [(0, .ref 80), (1, .int p0), (2, .ref o)]) [] (0, 17, 20, 19) [] rfl (fun z hz => nomatch hz) (fun z hz => by obtain rfl := List.mem_singleton.mp hz; exact ⟨rfl, by decide, kl_L_19, rfl⟩) rfl rfl (by decide +kernel) (i := 3) (ln := 1) [0, 1, 2] (Or.inl ⟨dL_isBelow_20, by decide, rfl⟩) (Nat.le_of_ble_eq_true rfl) rfl ?_
    refine qq_iconst (v := 1) dL_isBelow_21 (by decide) ?_
    exact qq_iret dL_isBelow_22 rfl rfl ⟨1, n, S, rfl, hS, ho, lsx_r (sm_r hp), (Or.inr ⟨rfl, zf, rfl, rfl⟩)⟩
set_option maxRecDepth 4000 in
theorem mt_L_isZero (hp : qq_H) (S : sX) (hS : cs_X S hp) (o : Nat) (n : Int64) (sv : Value) (ho : hp.2 o = .inr (3, [.long n, sv])) (hoE : 84 ≤ o) (p0 : Int32) : qq_Mt mL_isZero [.ref 80, .int p0, .ref o] hp 1 6 (fun v hp' => ∃ (k : Int32) (n' : Int64) (S' : sX), v = some (.int k) ∧ cs_X S' hp' ∧ hp'.2 o = .inr (3, [.long n', sv]) ∧ ls_X o hp hp' ∧ ((k = 0 ∧ (¬ p0 < 0 ∧ ¬ 8 ≤ p0) ∧ S' = S ∧ n' = if (r_X5_isZero p0 S) = 0 then 0 else 1) ∨ (k = 1 ∧ (p0 < 0 ∨ 8 ≤ p0) ∧ S' = S ∧ n' = n))) (fun _ _ => False) := by
  refine qq_met pn_L (Nat.le_of_ble_eq_true rfl) (Nat.le_of_ble_eq_true rfl) kc_L_isZero ?_
  show qq_Go _ hp 1 6 0 [(0, .ref 80), (1, .int p0), (2, .ref o)] [] _ _
  refine qq_aload_n dL_isZero_0 rfl 2 rfl ?_
  refine qq_aload_n dL_isZero_1 rfl 0 rfl ?_
  refine qq_iload_n dL_isZero_2 rfl 1 rfl ?_
  refine qq_callV (bc := 0) (bs := 0) (mc := 1) (ms := 6) (o := 80) (ci := 2) (N := 6) (T := TX5) (as := [.int p0]) (rest := [.ref o]) dL_isZero_3 hS.2.2.1 (by decide) rfl (mt_X5_isZero hp S hS p0) rfl kl_L_79 kn_X5_isZero ke_X5_isZero ki_X5 kc_X5_isZero kd_X5_isZero rfl (by decide) (by decide) (Nat.le_of_ble_eq_true rfl) (fun v hp1 hv _ _ => ?_) (fun E hp1 zx _ _ => ?_)
  · obtain ⟨rfl, rfl, zg0⟩ := hv
    have hS1 := hS
    have sM1 := sm_r hp
    refine qq_if_eq (tgt := 13) dL_isZero_6 (by decide) (fun zc => ?_) (fun zc => ?_)
    · refine qq_lconst (v := 0) dL_isZero_13 (by decide) ?_
      have ho1 : hp.2 o = .inr (3, [.long n, sv]) := (sM1.2 o (Or.inr hoE)).trans ho
      refine qq_putN (C := RX6) (host := "QuarterpowersLaw") (T := TX6) (N := 2) (ty := .long) dL_isZero_14 ho1 (show 80 ≤ o by omega) rfl 0 (by decide) (Nat.le_of_ble_eq_true rfl) ku_X6 (by decide +kernel) tyX6 tyX6_ok nmX6 rfl (by decide +kernel) (fun _ => rfl) (fun _ => rfl) ?_
      refine qq_goto (tgt := 23) dL_isZero_17 (by decide) ?_
      refine qq_iconst (v := 0) dL_isZero_23 (by decide) ?_
      exact qq_iret dL_isZero_24 rfl rfl ⟨0, 0, S, rfl, cs_up hS1 hoE, up_p, lsx_p sM1, Or.inl ⟨rfl, zg0, rfl, by rw [if_pos zc]⟩⟩
    · refine qq_lconst (v := 1) dL_isZero_9 (by decide) ?_
      refine qq_goto (tgt := 14) dL_isZero_10 (by decide) ?_
      have ho1 : hp.2 o = .inr (3, [.long n, sv]) := (sM1.2 o (Or.inr hoE)).trans ho
      refine qq_putN (C := RX6) (host := "QuarterpowersLaw") (T := TX6) (N := 2) (ty := .long) dL_isZero_14 ho1 (show 80 ≤ o by omega) rfl 0 (by decide) (Nat.le_of_ble_eq_true rfl) ku_X6 (by decide +kernel) tyX6 tyX6_ok nmX6 rfl (by decide +kernel) (fun _ => rfl) (fun _ => rfl) ?_
      refine qq_goto (tgt := 23) dL_isZero_17 (by decide) ?_
      refine qq_iconst (v := 0) dL_isZero_23 (by decide) ?_
      exact qq_iret dL_isZero_24 rfl rfl ⟨0, 1, S, rfl, cs_up hS1 hoE, up_p, lsx_p sM1, Or.inl ⟨rfl, zg0, rfl, by rw [if_neg zc]⟩⟩
  · obtain ⟨rfl, zx⟩ := zx
    obtain ⟨rfl, zf⟩ := zx
    refine qq_catch (name := "java/lang/IndexOutOfBoundsException") (n := 20) (loc' := [(0, .ref 80), (1, .int p0), (2, .ref o)]) [] (0, 17, 20, 19) [] rfl (fun z hz => nomatch hz) (fun z hz => by obtain rfl := List.mem_singleton.mp hz; exact ⟨rfl, by decide, kl_L_19, rfl⟩) rfl rfl (by decide +kernel) (i := 3) (ln := 1) [0, 1, 2] (Or.inl ⟨dL_isZero_20, by decide, rfl⟩) (Nat.le_of_ble_eq_true rfl) rfl ?_
    refine qq_iconst (v := 1) dL_isZero_21 (by decide) ?_
    exact qq_iret dL_isZero_22 rfl rfl ⟨1, n, S, rfl, hS, ho, lsx_r (sm_r hp), (Or.inr ⟨rfl, zf, rfl, rfl⟩)⟩
set_option maxRecDepth 4000 in
theorem mt_L_isEndless (hp : qq_H) (S : sX) (hS : cs_X S hp) (o : Nat) (n : Int64) (sv : Value) (ho : hp.2 o = .inr (3, [.long n, sv])) (hoE : 84 ≤ o) (p0 : Int32) : qq_Mt mL_isEndless [.ref 80, .int p0, .ref o] hp 1 6 (fun v hp' => ∃ (k : Int32) (n' : Int64) (S' : sX), v = some (.int k) ∧ cs_X S' hp' ∧ hp'.2 o = .inr (3, [.long n', sv]) ∧ ls_X o hp hp' ∧ ((k = 0 ∧ (¬ p0 < 0 ∧ ¬ 8 ≤ p0) ∧ S' = S ∧ n' = if (r_X5_isEndless p0 S) = 0 then 0 else 1) ∨ (k = 1 ∧ (p0 < 0 ∨ 8 ≤ p0) ∧ S' = S ∧ n' = n))) (fun _ _ => False) := by
  refine qq_met pn_L (Nat.le_of_ble_eq_true rfl) (Nat.le_of_ble_eq_true rfl) kc_L_isEndless ?_
  show qq_Go _ hp 1 6 0 [(0, .ref 80), (1, .int p0), (2, .ref o)] [] _ _
  refine qq_aload_n dL_isEndless_0 rfl 2 rfl ?_
  refine qq_aload_n dL_isEndless_1 rfl 0 rfl ?_
  refine qq_iload_n dL_isEndless_2 rfl 1 rfl ?_
  refine qq_callV (bc := 0) (bs := 0) (mc := 1) (ms := 6) (o := 80) (ci := 2) (N := 6) (T := TX5) (as := [.int p0]) (rest := [.ref o]) dL_isEndless_3 hS.2.2.1 (by decide) rfl (mt_X5_isEndless hp S hS p0) rfl kl_L_82 kn_X5_isEndless ke_X5_isEndless ki_X5 kc_X5_isEndless kd_X5_isEndless rfl (by decide) (by decide) (Nat.le_of_ble_eq_true rfl) (fun v hp1 hv _ _ => ?_) (fun E hp1 zx _ _ => ?_)
  · obtain ⟨rfl, rfl, zg0⟩ := hv
    have hS1 := hS
    have sM1 := sm_r hp
    refine qq_if_eq (tgt := 13) dL_isEndless_6 (by decide) (fun zc => ?_) (fun zc => ?_)
    · refine qq_lconst (v := 0) dL_isEndless_13 (by decide) ?_
      have ho1 : hp.2 o = .inr (3, [.long n, sv]) := (sM1.2 o (Or.inr hoE)).trans ho
      refine qq_putN (C := RX6) (host := "QuarterpowersLaw") (T := TX6) (N := 2) (ty := .long) dL_isEndless_14 ho1 (show 80 ≤ o by omega) rfl 0 (by decide) (Nat.le_of_ble_eq_true rfl) ku_X6 (by decide +kernel) tyX6 tyX6_ok nmX6 rfl (by decide +kernel) (fun _ => rfl) (fun _ => rfl) ?_
      refine qq_goto (tgt := 23) dL_isEndless_17 (by decide) ?_
      refine qq_iconst (v := 0) dL_isEndless_23 (by decide) ?_
      exact qq_iret dL_isEndless_24 rfl rfl ⟨0, 0, S, rfl, cs_up hS1 hoE, up_p, lsx_p sM1, Or.inl ⟨rfl, zg0, rfl, by rw [if_pos zc]⟩⟩
    · refine qq_lconst (v := 1) dL_isEndless_9 (by decide) ?_
      refine qq_goto (tgt := 14) dL_isEndless_10 (by decide) ?_
      have ho1 : hp.2 o = .inr (3, [.long n, sv]) := (sM1.2 o (Or.inr hoE)).trans ho
      refine qq_putN (C := RX6) (host := "QuarterpowersLaw") (T := TX6) (N := 2) (ty := .long) dL_isEndless_14 ho1 (show 80 ≤ o by omega) rfl 0 (by decide) (Nat.le_of_ble_eq_true rfl) ku_X6 (by decide +kernel) tyX6 tyX6_ok nmX6 rfl (by decide +kernel) (fun _ => rfl) (fun _ => rfl) ?_
      refine qq_goto (tgt := 23) dL_isEndless_17 (by decide) ?_
      refine qq_iconst (v := 0) dL_isEndless_23 (by decide) ?_
      exact qq_iret dL_isEndless_24 rfl rfl ⟨0, 1, S, rfl, cs_up hS1 hoE, up_p, lsx_p sM1, Or.inl ⟨rfl, zg0, rfl, by rw [if_neg zc]⟩⟩
  · obtain ⟨rfl, zx⟩ := zx
    obtain ⟨rfl, zf⟩ := zx
    refine qq_catch (name := "java/lang/IndexOutOfBoundsException") (n := 20) (loc' := [(0, .ref 80), (1, .int p0), (2, .ref o)]) [] (0, 17, 20, 19) [] rfl (fun z hz => nomatch hz) (fun z hz => by obtain rfl := List.mem_singleton.mp hz; exact ⟨rfl, by decide, kl_L_19, rfl⟩) rfl rfl (by decide +kernel) (i := 3) (ln := 1) [0, 1, 2] (Or.inl ⟨dL_isEndless_20, by decide, rfl⟩) (Nat.le_of_ble_eq_true rfl) rfl ?_
    refine qq_iconst (v := 1) dL_isEndless_21 (by decide) ?_
    exact qq_iret dL_isEndless_22 rfl rfl ⟨1, n, S, rfl, hS, ho, lsx_r (sm_r hp), (Or.inr ⟨rfl, zf, rfl, rfl⟩)⟩
set_option maxRecDepth 4000 in
theorem mt_L_whole (hp : qq_H) (S : sX) (hS : cs_X S hp) (o : Nat) (n : Int64) (sv : Value) (ho : hp.2 o = .inr (3, [.long n, sv])) (hoE : 84 ≤ o) (p0 p1 : Int32) : qq_Mt mL_whole [.ref 80, .int p0, .int p1, .ref o] hp 4 24 (fun v hp' => ∃ (k : Int32) (n' : Int64) (S' : sX), v = some (.int k) ∧ cs_X S' hp' ∧ hp'.2 o = .inr (3, [.long n', sv]) ∧ ls_X o hp hp' ∧ ((k = 0 ∧ (¬ p0 < 0 ∧ ¬ 8 ≤ p0) ∧ (¬ p1 < -62 ∧ ¬ 90 < p1) ∧ (¬ f_X2_hasWhole (S.1 p0.toNatClampNeg) = 0) ∧ (¬ (f_X1_roundedDown (S.2.1 p0.toNatClampNeg) p1) < -2147483648 ∧ ¬ 2147483647 < (f_X1_roundedDown (S.2.1 p0.toNatClampNeg) p1)) ∧ S' = S ∧ n' = (r_X5_whole p0 p1 S).toInt64) ∨ (k = 1 ∧ (p0 < 0 ∨ 8 ≤ p0) ∧ S' = S ∧ n' = n) ∨ (k = 2 ∧ (¬ p0 < 0 ∧ ¬ 8 ≤ p0) ∧ (p1 < -62 ∨ 90 < p1) ∧ S' = S ∧ n' = n) ∨ (k = 3 ∧ (¬ p0 < 0 ∧ ¬ 8 ≤ p0) ∧ (¬ p1 < -62 ∧ ¬ 90 < p1) ∧ (f_X2_hasWhole (S.1 p0.toNatClampNeg) = 0) ∧ S' = S ∧ n' = n) ∨ (k = 3 ∧ (¬ p0 < 0 ∧ ¬ 8 ≤ p0) ∧ (¬ p1 < -62 ∧ ¬ 90 < p1) ∧ (¬ f_X2_hasWhole (S.1 p0.toNatClampNeg) = 0) ∧ ((f_X1_roundedDown (S.2.1 p0.toNatClampNeg) p1) < -2147483648 ∨ 2147483647 < (f_X1_roundedDown (S.2.1 p0.toNatClampNeg) p1)) ∧ S' = S ∧ n' = n))) (fun _ _ => False) := by
  refine qq_met pn_L (Nat.le_of_ble_eq_true rfl) (Nat.le_of_ble_eq_true rfl) kc_L_whole ?_
  show qq_Go _ hp 4 24 0 [(0, .ref 80), (1, .int p0), (2, .int p1), (3, .ref o)] [] _ _
  refine qq_aload_n dL_whole_0 rfl 3 rfl ?_
  refine qq_aload_n dL_whole_1 rfl 0 rfl ?_
  refine qq_iload_n dL_whole_2 rfl 1 rfl ?_
  refine qq_iload_n dL_whole_3 rfl 2 rfl ?_
  refine qq_callV (bc := 0) (bs := 0) (mc := 4) (ms := 24) (o := 80) (ci := 2) (N := 6) (T := TX5) (as := [.int p0, .int p1]) (rest := [.ref o]) dL_whole_4 hS.2.2.1 (by decide) rfl (mt_X5_whole hp S hS p0 p1) rfl kl_L_85 kn_X5_whole ke_X5_whole ki_X5 kc_X5_whole kd_X5_whole rfl (by decide) (by decide) (Nat.le_of_ble_eq_true rfl) (fun v hp1 hv _ _ => ?_) (fun E hp1 zx _ _ => ?_)
  · obtain ⟨rfl, rfl, zg0, zg1, zg2, zg3⟩ := hv
    have hS1 := hS
    have sM1 := sm_r hp
    refine qq_i2l dL_whole_7 ?_
    have ho1 : hp.2 o = .inr (3, [.long n, sv]) := (sM1.2 o (Or.inr hoE)).trans ho
    refine qq_putN (C := RX6) (host := "QuarterpowersLaw") (T := TX6) (N := 2) (ty := .long) dL_whole_8 ho1 (show 80 ≤ o by omega) rfl 0 (by decide) (Nat.le_of_ble_eq_true rfl) ku_X6 (by decide +kernel) tyX6 tyX6_ok nmX6 rfl (by decide +kernel) (fun _ => rfl) (fun _ => rfl) ?_
    refine qq_goto (tgt := 26) dL_whole_11 (by decide) ?_
    refine qq_iconst (v := 0) dL_whole_26 (by decide) ?_
    exact qq_iret dL_whole_27 rfl rfl ⟨0, (r_X5_whole p0 p1 S).toInt64, S, rfl, cs_up hS1 hoE, up_p, lsx_p sM1, Or.inl ⟨rfl, zg0, zg1, zg2, zg3, rfl, rfl⟩⟩
  · obtain ⟨rfl, zx⟩ := zx
    rcases zx with zx | zx
    · obtain ⟨rfl, zf⟩ := zx
      refine qq_catch (name := "java/lang/IndexOutOfBoundsException") (n := 14) (loc' := [(0, .ref 80), (1, .int p0), (2, .int p1), (3, .ref o)]) [] (0, 11, 14, 19) [(0, 11, 18, 21), (0, 11, 22, 88)] rfl (fun z hz => nomatch hz) (fun z hz => by obtain rfl := List.mem_singleton.mp hz; exact ⟨rfl, by decide, kl_L_19, rfl⟩) rfl rfl (by decide +kernel) (i := 4) (ln := 2) [0, 1, 2, 3] (Or.inr ⟨dL_whole_14, rfl⟩) (Nat.le_of_ble_eq_true rfl) rfl ?_
      refine qq_iconst (v := 1) dL_whole_16 (by decide) ?_
      exact qq_iret dL_whole_17 rfl rfl ⟨1, n, S, rfl, hS, ho, lsx_r (sm_r hp), (Or.inr (Or.inl ⟨rfl, zf, rfl, rfl⟩))⟩
    · rcases zx with zx | zx
      · obtain ⟨rfl, zg0, zf⟩ := zx
        refine qq_catch (name := "java/lang/IllegalArgumentException") (n := 18) (loc' := [(0, .ref 80), (1, .int p0), (2, .int p1), (3, .ref o)]) [(0, 11, 14, 19)] (0, 11, 18, 21) [(0, 11, 22, 88)] rfl (fun z hz => by simp only [tableOf, List.map_cons, List.map_nil, List.mem_cons, List.not_mem_nil, or_false] at hz; rcases hz with rfl <;> first | exact ⟨by decide, "java/lang/IndexOutOfBoundsException", kl_L_19, by decide +kernel⟩) (fun z hz => by obtain rfl := List.mem_singleton.mp hz; exact ⟨rfl, by decide, kl_L_21, rfl⟩) rfl rfl (by decide +kernel) (i := 4) (ln := 2) [0, 1, 2, 3] (Or.inr ⟨dL_whole_18, rfl⟩) (Nat.le_of_ble_eq_true rfl) rfl ?_
        refine qq_iconst (v := 2) dL_whole_20 (by decide) ?_
        exact qq_iret dL_whole_21 rfl rfl ⟨2, n, S, rfl, hS, ho, lsx_r (sm_r hp), (Or.inr (Or.inr (Or.inl ⟨rfl, zg0, zf, rfl, rfl⟩)))⟩
      · rcases zx with zx | zx
        · obtain ⟨rfl, zg0, zg1, zf⟩ := zx
          refine qq_catch (name := "java/lang/IllegalStateException") (n := 22) (loc' := [(0, .ref 80), (1, .int p0), (2, .int p1), (3, .ref o)]) [(0, 11, 14, 19), (0, 11, 18, 21)] (0, 11, 22, 88) [] rfl (fun z hz => by simp only [tableOf, List.map_cons, List.map_nil, List.mem_cons, List.not_mem_nil, or_false] at hz; rcases hz with rfl | rfl <;> first | exact ⟨by decide, "java/lang/IndexOutOfBoundsException", kl_L_19, by decide +kernel⟩ | exact ⟨by decide, "java/lang/IllegalArgumentException", kl_L_21, by decide +kernel⟩) (fun z hz => by obtain rfl := List.mem_singleton.mp hz; exact ⟨rfl, by decide, kl_L_88, rfl⟩) rfl rfl (by decide +kernel) (i := 4) (ln := 2) [0, 1, 2, 3] (Or.inr ⟨dL_whole_22, rfl⟩) (Nat.le_of_ble_eq_true rfl) rfl ?_
          refine qq_iconst (v := 3) dL_whole_24 (by decide) ?_
          exact qq_iret dL_whole_25 rfl rfl ⟨3, n, S, rfl, hS, ho, lsx_r (sm_r hp), (Or.inr (Or.inr (Or.inr (Or.inl ⟨rfl, zg0, zg1, zf, rfl, rfl⟩))))⟩
        · obtain ⟨rfl, zg0, zg1, zg2, zf⟩ := zx
          refine qq_catch (name := "java/lang/IllegalStateException") (n := 22) (loc' := [(0, .ref 80), (1, .int p0), (2, .int p1), (3, .ref o)]) [(0, 11, 14, 19), (0, 11, 18, 21)] (0, 11, 22, 88) [] rfl (fun z hz => by simp only [tableOf, List.map_cons, List.map_nil, List.mem_cons, List.not_mem_nil, or_false] at hz; rcases hz with rfl | rfl <;> first | exact ⟨by decide, "java/lang/IndexOutOfBoundsException", kl_L_19, by decide +kernel⟩ | exact ⟨by decide, "java/lang/IllegalArgumentException", kl_L_21, by decide +kernel⟩) (fun z hz => by obtain rfl := List.mem_singleton.mp hz; exact ⟨rfl, by decide, kl_L_88, rfl⟩) rfl rfl (by decide +kernel) (i := 4) (ln := 2) [0, 1, 2, 3] (Or.inr ⟨dL_whole_22, rfl⟩) (Nat.le_of_ble_eq_true rfl) rfl ?_
          refine qq_iconst (v := 3) dL_whole_24 (by decide) ?_
          exact qq_iret dL_whole_25 rfl rfl ⟨3, n, S, rfl, hS, ho, lsx_r (sm_r hp), (Or.inr (Or.inr (Or.inr (Or.inr ⟨rfl, zg0, zg1, zg2, zf, rfl, rfl⟩))))⟩
set_option maxRecDepth 4000 in
theorem mt_L_height (hp : qq_H) (S : sX) (hS : cs_X S hp) (o : Nat) (n : Int64) (sv : Value) (ho : hp.2 o = .inr (3, [.long n, sv])) (hoE : 84 ≤ o) (p0 : Int32) : qq_Mt mL_height [.ref 80, .int p0, .ref o] hp 2 12 (fun v hp' => ∃ (k : Int32) (n' : Int64) (S' : sX), v = some (.int k) ∧ cs_X S' hp' ∧ hp'.2 o = .inr (3, [.long n', sv]) ∧ ls_X o hp hp' ∧ ((k = 0 ∧ (¬ p0 < 0 ∧ ¬ 8 ≤ p0) ∧ (¬ f_X2_hasHeight (S.1 p0.toNatClampNeg) = 0) ∧ S' = S ∧ n' = (r_X5_height p0 S).toInt64) ∨ (k = 1 ∧ (p0 < 0 ∨ 8 ≤ p0) ∧ S' = S ∧ n' = n) ∨ (k = 2 ∧ (¬ p0 < 0 ∧ ¬ 8 ≤ p0) ∧ (f_X2_hasHeight (S.1 p0.toNatClampNeg) = 0) ∧ S' = S ∧ n' = n))) (fun _ _ => False) := by
  refine qq_met pn_L (Nat.le_of_ble_eq_true rfl) (Nat.le_of_ble_eq_true rfl) kc_L_height ?_
  show qq_Go _ hp 2 12 0 [(0, .ref 80), (1, .int p0), (2, .ref o)] [] _ _
  refine qq_aload_n dL_height_0 rfl 2 rfl ?_
  refine qq_aload_n dL_height_1 rfl 0 rfl ?_
  refine qq_iload_n dL_height_2 rfl 1 rfl ?_
  refine qq_callV (bc := 0) (bs := 0) (mc := 2) (ms := 12) (o := 80) (ci := 2) (N := 6) (T := TX5) (as := [.int p0]) (rest := [.ref o]) dL_height_3 hS.2.2.1 (by decide) rfl (mt_X5_height hp S hS p0) rfl kl_L_90 kn_X5_height ke_X5_height ki_X5 kc_X5_height kd_X5_height rfl (by decide) (by decide) (Nat.le_of_ble_eq_true rfl) (fun v hp1 hv _ _ => ?_) (fun E hp1 zx _ _ => ?_)
  · obtain ⟨rfl, rfl, zg0, zg1⟩ := hv
    have hS1 := hS
    have sM1 := sm_r hp
    refine qq_i2l dL_height_6 ?_
    have ho1 : hp.2 o = .inr (3, [.long n, sv]) := (sM1.2 o (Or.inr hoE)).trans ho
    refine qq_putN (C := RX6) (host := "QuarterpowersLaw") (T := TX6) (N := 2) (ty := .long) dL_height_7 ho1 (show 80 ≤ o by omega) rfl 0 (by decide) (Nat.le_of_ble_eq_true rfl) ku_X6 (by decide +kernel) tyX6 tyX6_ok nmX6 rfl (by decide +kernel) (fun _ => rfl) (fun _ => rfl) ?_
    refine qq_goto (tgt := 19) dL_height_10 (by decide) ?_
    refine qq_iconst (v := 0) dL_height_19 (by decide) ?_
    exact qq_iret dL_height_20 rfl rfl ⟨0, (r_X5_height p0 S).toInt64, S, rfl, cs_up hS1 hoE, up_p, lsx_p sM1, Or.inl ⟨rfl, zg0, zg1, rfl, rfl⟩⟩
  · obtain ⟨rfl, zx⟩ := zx
    rcases zx with zx | zx
    · obtain ⟨rfl, zf⟩ := zx
      refine qq_catch (name := "java/lang/IndexOutOfBoundsException") (n := 13) (loc' := [(0, .ref 80), (1, .int p0), (2, .ref o)]) [] (0, 10, 13, 19) [(0, 10, 16, 88)] rfl (fun z hz => nomatch hz) (fun z hz => by obtain rfl := List.mem_singleton.mp hz; exact ⟨rfl, by decide, kl_L_19, rfl⟩) rfl rfl (by decide +kernel) (i := 3) (ln := 1) [0, 1, 2] (Or.inl ⟨dL_height_13, by decide, rfl⟩) (Nat.le_of_ble_eq_true rfl) rfl ?_
      refine qq_iconst (v := 1) dL_height_14 (by decide) ?_
      exact qq_iret dL_height_15 rfl rfl ⟨1, n, S, rfl, hS, ho, lsx_r (sm_r hp), (Or.inr (Or.inl ⟨rfl, zf, rfl, rfl⟩))⟩
    · obtain ⟨rfl, zg0, zf⟩ := zx
      refine qq_catch (name := "java/lang/IllegalStateException") (n := 16) (loc' := [(0, .ref 80), (1, .int p0), (2, .ref o)]) [(0, 10, 13, 19)] (0, 10, 16, 88) [] rfl (fun z hz => by simp only [tableOf, List.map_cons, List.map_nil, List.mem_cons, List.not_mem_nil, or_false] at hz; rcases hz with rfl <;> first | exact ⟨by decide, "java/lang/IndexOutOfBoundsException", kl_L_19, by decide +kernel⟩) (fun z hz => by obtain rfl := List.mem_singleton.mp hz; exact ⟨rfl, by decide, kl_L_88, rfl⟩) rfl rfl (by decide +kernel) (i := 3) (ln := 1) [0, 1, 2] (Or.inl ⟨dL_height_16, by decide, rfl⟩) (Nat.le_of_ble_eq_true rfl) rfl ?_
      refine qq_iconst (v := 2) dL_height_17 (by decide) ?_
      exact qq_iret dL_height_18 rfl rfl ⟨2, n, S, rfl, hS, ho, lsx_r (sm_r hp), (Or.inr (Or.inr ⟨rfl, zg0, zf, rfl, rfl⟩))⟩
set_option maxRecDepth 4000 in
theorem mt_L_digits (hp : qq_H) (S : sX) (hS : cs_X S hp) (o : Nat) (n : Int64) (sv : Value) (ho : hp.2 o = .inr (3, [.long n, sv])) (hoE : 84 ≤ o) (p0 : Int32) : qq_Mt mL_digits [.ref 80, .int p0, .ref o] hp 2 12 (fun v hp' => ∃ (k : Int32) (n' : Int64) (S' : sX), v = some (.int k) ∧ cs_X S' hp' ∧ hp'.2 o = .inr (3, [.long n', sv]) ∧ ls_X o hp hp' ∧ ((k = 0 ∧ (¬ p0 < 0 ∧ ¬ 8 ≤ p0) ∧ (¬ f_X2_hasHeight (S.1 p0.toNatClampNeg) = 0) ∧ S' = S ∧ n' = (r_X5_digits p0 S).toInt64) ∨ (k = 1 ∧ (p0 < 0 ∨ 8 ≤ p0) ∧ S' = S ∧ n' = n) ∨ (k = 2 ∧ (¬ p0 < 0 ∧ ¬ 8 ≤ p0) ∧ (f_X2_hasHeight (S.1 p0.toNatClampNeg) = 0) ∧ S' = S ∧ n' = n))) (fun _ _ => False) := by
  refine qq_met pn_L (Nat.le_of_ble_eq_true rfl) (Nat.le_of_ble_eq_true rfl) kc_L_digits ?_
  show qq_Go _ hp 2 12 0 [(0, .ref 80), (1, .int p0), (2, .ref o)] [] _ _
  refine qq_aload_n dL_digits_0 rfl 2 rfl ?_
  refine qq_aload_n dL_digits_1 rfl 0 rfl ?_
  refine qq_iload_n dL_digits_2 rfl 1 rfl ?_
  refine qq_callV (bc := 0) (bs := 0) (mc := 2) (ms := 12) (o := 80) (ci := 2) (N := 6) (T := TX5) (as := [.int p0]) (rest := [.ref o]) dL_digits_3 hS.2.2.1 (by decide) rfl (mt_X5_digits hp S hS p0) rfl kl_L_93 kn_X5_digits ke_X5_digits ki_X5 kc_X5_digits kd_X5_digits rfl (by decide) (by decide) (Nat.le_of_ble_eq_true rfl) (fun v hp1 hv _ _ => ?_) (fun E hp1 zx _ _ => ?_)
  · obtain ⟨rfl, rfl, zg0, zg1⟩ := hv
    have hS1 := hS
    have sM1 := sm_r hp
    refine qq_i2l dL_digits_6 ?_
    have ho1 : hp.2 o = .inr (3, [.long n, sv]) := (sM1.2 o (Or.inr hoE)).trans ho
    refine qq_putN (C := RX6) (host := "QuarterpowersLaw") (T := TX6) (N := 2) (ty := .long) dL_digits_7 ho1 (show 80 ≤ o by omega) rfl 0 (by decide) (Nat.le_of_ble_eq_true rfl) ku_X6 (by decide +kernel) tyX6 tyX6_ok nmX6 rfl (by decide +kernel) (fun _ => rfl) (fun _ => rfl) ?_
    refine qq_goto (tgt := 19) dL_digits_10 (by decide) ?_
    refine qq_iconst (v := 0) dL_digits_19 (by decide) ?_
    exact qq_iret dL_digits_20 rfl rfl ⟨0, (r_X5_digits p0 S).toInt64, S, rfl, cs_up hS1 hoE, up_p, lsx_p sM1, Or.inl ⟨rfl, zg0, zg1, rfl, rfl⟩⟩
  · obtain ⟨rfl, zx⟩ := zx
    rcases zx with zx | zx
    · obtain ⟨rfl, zf⟩ := zx
      refine qq_catch (name := "java/lang/IndexOutOfBoundsException") (n := 13) (loc' := [(0, .ref 80), (1, .int p0), (2, .ref o)]) [] (0, 10, 13, 19) [(0, 10, 16, 88)] rfl (fun z hz => nomatch hz) (fun z hz => by obtain rfl := List.mem_singleton.mp hz; exact ⟨rfl, by decide, kl_L_19, rfl⟩) rfl rfl (by decide +kernel) (i := 3) (ln := 1) [0, 1, 2] (Or.inl ⟨dL_digits_13, by decide, rfl⟩) (Nat.le_of_ble_eq_true rfl) rfl ?_
      refine qq_iconst (v := 1) dL_digits_14 (by decide) ?_
      exact qq_iret dL_digits_15 rfl rfl ⟨1, n, S, rfl, hS, ho, lsx_r (sm_r hp), (Or.inr (Or.inl ⟨rfl, zf, rfl, rfl⟩))⟩
    · obtain ⟨rfl, zg0, zf⟩ := zx
      refine qq_catch (name := "java/lang/IllegalStateException") (n := 16) (loc' := [(0, .ref 80), (1, .int p0), (2, .ref o)]) [(0, 10, 13, 19)] (0, 10, 16, 88) [] rfl (fun z hz => by simp only [tableOf, List.map_cons, List.map_nil, List.mem_cons, List.not_mem_nil, or_false] at hz; rcases hz with rfl <;> first | exact ⟨by decide, "java/lang/IndexOutOfBoundsException", kl_L_19, by decide +kernel⟩) (fun z hz => by obtain rfl := List.mem_singleton.mp hz; exact ⟨rfl, by decide, kl_L_88, rfl⟩) rfl rfl (by decide +kernel) (i := 3) (ln := 1) [0, 1, 2] (Or.inl ⟨dL_digits_16, by decide, rfl⟩) (Nat.le_of_ble_eq_true rfl) rfl ?_
      refine qq_iconst (v := 2) dL_digits_17 (by decide) ?_
      exact qq_iret dL_digits_18 rfl rfl ⟨2, n, S, rfl, hS, ho, lsx_r (sm_r hp), (Or.inr (Or.inr ⟨rfl, zg0, zf, rfl, rfl⟩))⟩
set_option maxRecDepth 4000 in
theorem mt_L_upper (hp : qq_H) (S : sX) (hS : cs_X S hp) (o : Nat) (n : Int64) (sv : Value) (ho : hp.2 o = .inr (3, [.long n, sv])) (hoE : 84 ≤ o) (p0 : Int32) : qq_Mt mL_upper [.ref 80, .int p0, .ref o] hp 2 12 (fun v hp' => ∃ (k : Int32) (n' : Int64) (S' : sX), v = some (.int k) ∧ cs_X S' hp' ∧ hp'.2 o = .inr (3, [.long n', sv]) ∧ ls_X o hp hp' ∧ ((k = 0 ∧ (¬ p0 < 0 ∧ ¬ 8 ≤ p0) ∧ (¬ f_X2_hasToldDigits (S.1 p0.toNatClampNeg) = 0) ∧ S' = S ∧ n' = (r_X5_upper p0 S).toInt64) ∨ (k = 1 ∧ (p0 < 0 ∨ 8 ≤ p0) ∧ S' = S ∧ n' = n) ∨ (k = 2 ∧ (¬ p0 < 0 ∧ ¬ 8 ≤ p0) ∧ (f_X2_hasToldDigits (S.1 p0.toNatClampNeg) = 0) ∧ S' = S ∧ n' = n))) (fun _ _ => False) := by
  refine qq_met pn_L (Nat.le_of_ble_eq_true rfl) (Nat.le_of_ble_eq_true rfl) kc_L_upper ?_
  show qq_Go _ hp 2 12 0 [(0, .ref 80), (1, .int p0), (2, .ref o)] [] _ _
  refine qq_aload_n dL_upper_0 rfl 2 rfl ?_
  refine qq_aload_n dL_upper_1 rfl 0 rfl ?_
  refine qq_iload_n dL_upper_2 rfl 1 rfl ?_
  refine qq_callV (bc := 0) (bs := 0) (mc := 2) (ms := 12) (o := 80) (ci := 2) (N := 6) (T := TX5) (as := [.int p0]) (rest := [.ref o]) dL_upper_3 hS.2.2.1 (by decide) rfl (mt_X5_upper hp S hS p0) rfl kl_L_96 kn_X5_upper ke_X5_upper ki_X5 kc_X5_upper kd_X5_upper rfl (by decide) (by decide) (Nat.le_of_ble_eq_true rfl) (fun v hp1 hv _ _ => ?_) (fun E hp1 zx _ _ => ?_)
  · obtain ⟨rfl, rfl, zg0, zg1⟩ := hv
    have hS1 := hS
    have sM1 := sm_r hp
    refine qq_i2l dL_upper_6 ?_
    have ho1 : hp.2 o = .inr (3, [.long n, sv]) := (sM1.2 o (Or.inr hoE)).trans ho
    refine qq_putN (C := RX6) (host := "QuarterpowersLaw") (T := TX6) (N := 2) (ty := .long) dL_upper_7 ho1 (show 80 ≤ o by omega) rfl 0 (by decide) (Nat.le_of_ble_eq_true rfl) ku_X6 (by decide +kernel) tyX6 tyX6_ok nmX6 rfl (by decide +kernel) (fun _ => rfl) (fun _ => rfl) ?_
    refine qq_goto (tgt := 19) dL_upper_10 (by decide) ?_
    refine qq_iconst (v := 0) dL_upper_19 (by decide) ?_
    exact qq_iret dL_upper_20 rfl rfl ⟨0, (r_X5_upper p0 S).toInt64, S, rfl, cs_up hS1 hoE, up_p, lsx_p sM1, Or.inl ⟨rfl, zg0, zg1, rfl, rfl⟩⟩
  · obtain ⟨rfl, zx⟩ := zx
    rcases zx with zx | zx
    · obtain ⟨rfl, zf⟩ := zx
      refine qq_catch (name := "java/lang/IndexOutOfBoundsException") (n := 13) (loc' := [(0, .ref 80), (1, .int p0), (2, .ref o)]) [] (0, 10, 13, 19) [(0, 10, 16, 88)] rfl (fun z hz => nomatch hz) (fun z hz => by obtain rfl := List.mem_singleton.mp hz; exact ⟨rfl, by decide, kl_L_19, rfl⟩) rfl rfl (by decide +kernel) (i := 3) (ln := 1) [0, 1, 2] (Or.inl ⟨dL_upper_13, by decide, rfl⟩) (Nat.le_of_ble_eq_true rfl) rfl ?_
      refine qq_iconst (v := 1) dL_upper_14 (by decide) ?_
      exact qq_iret dL_upper_15 rfl rfl ⟨1, n, S, rfl, hS, ho, lsx_r (sm_r hp), (Or.inr (Or.inl ⟨rfl, zf, rfl, rfl⟩))⟩
    · obtain ⟨rfl, zg0, zf⟩ := zx
      refine qq_catch (name := "java/lang/IllegalStateException") (n := 16) (loc' := [(0, .ref 80), (1, .int p0), (2, .ref o)]) [(0, 10, 13, 19)] (0, 10, 16, 88) [] rfl (fun z hz => by simp only [tableOf, List.map_cons, List.map_nil, List.mem_cons, List.not_mem_nil, or_false] at hz; rcases hz with rfl <;> first | exact ⟨by decide, "java/lang/IndexOutOfBoundsException", kl_L_19, by decide +kernel⟩) (fun z hz => by obtain rfl := List.mem_singleton.mp hz; exact ⟨rfl, by decide, kl_L_88, rfl⟩) rfl rfl (by decide +kernel) (i := 3) (ln := 1) [0, 1, 2] (Or.inl ⟨dL_upper_16, by decide, rfl⟩) (Nat.le_of_ble_eq_true rfl) rfl ?_
      refine qq_iconst (v := 2) dL_upper_17 (by decide) ?_
      exact qq_iret dL_upper_18 rfl rfl ⟨2, n, S, rfl, hS, ho, lsx_r (sm_r hp), (Or.inr (Or.inr ⟨rfl, zg0, zf, rfl, rfl⟩))⟩
set_option maxRecDepth 4000 in
theorem mt_L_lower (hp : qq_H) (S : sX) (hS : cs_X S hp) (o : Nat) (n : Int64) (sv : Value) (ho : hp.2 o = .inr (3, [.long n, sv])) (hoE : 84 ≤ o) (p0 : Int32) : qq_Mt mL_lower [.ref 80, .int p0, .ref o] hp 2 12 (fun v hp' => ∃ (k : Int32) (n' : Int64) (S' : sX), v = some (.int k) ∧ cs_X S' hp' ∧ hp'.2 o = .inr (3, [.long n', sv]) ∧ ls_X o hp hp' ∧ ((k = 0 ∧ (¬ p0 < 0 ∧ ¬ 8 ≤ p0) ∧ (¬ f_X2_hasToldDigits (S.1 p0.toNatClampNeg) = 0) ∧ S' = S ∧ n' = (r_X5_lower p0 S).toInt64) ∨ (k = 1 ∧ (p0 < 0 ∨ 8 ≤ p0) ∧ S' = S ∧ n' = n) ∨ (k = 2 ∧ (¬ p0 < 0 ∧ ¬ 8 ≤ p0) ∧ (f_X2_hasToldDigits (S.1 p0.toNatClampNeg) = 0) ∧ S' = S ∧ n' = n))) (fun _ _ => False) := by
  refine qq_met pn_L (Nat.le_of_ble_eq_true rfl) (Nat.le_of_ble_eq_true rfl) kc_L_lower ?_
  show qq_Go _ hp 2 12 0 [(0, .ref 80), (1, .int p0), (2, .ref o)] [] _ _
  refine qq_aload_n dL_lower_0 rfl 2 rfl ?_
  refine qq_aload_n dL_lower_1 rfl 0 rfl ?_
  refine qq_iload_n dL_lower_2 rfl 1 rfl ?_
  refine qq_callV (bc := 0) (bs := 0) (mc := 2) (ms := 12) (o := 80) (ci := 2) (N := 6) (T := TX5) (as := [.int p0]) (rest := [.ref o]) dL_lower_3 hS.2.2.1 (by decide) rfl (mt_X5_lower hp S hS p0) rfl kl_L_99 kn_X5_lower ke_X5_lower ki_X5 kc_X5_lower kd_X5_lower rfl (by decide) (by decide) (Nat.le_of_ble_eq_true rfl) (fun v hp1 hv _ _ => ?_) (fun E hp1 zx _ _ => ?_)
  · obtain ⟨rfl, rfl, zg0, zg1⟩ := hv
    have hS1 := hS
    have sM1 := sm_r hp
    refine qq_i2l dL_lower_6 ?_
    have ho1 : hp.2 o = .inr (3, [.long n, sv]) := (sM1.2 o (Or.inr hoE)).trans ho
    refine qq_putN (C := RX6) (host := "QuarterpowersLaw") (T := TX6) (N := 2) (ty := .long) dL_lower_7 ho1 (show 80 ≤ o by omega) rfl 0 (by decide) (Nat.le_of_ble_eq_true rfl) ku_X6 (by decide +kernel) tyX6 tyX6_ok nmX6 rfl (by decide +kernel) (fun _ => rfl) (fun _ => rfl) ?_
    refine qq_goto (tgt := 19) dL_lower_10 (by decide) ?_
    refine qq_iconst (v := 0) dL_lower_19 (by decide) ?_
    exact qq_iret dL_lower_20 rfl rfl ⟨0, (r_X5_lower p0 S).toInt64, S, rfl, cs_up hS1 hoE, up_p, lsx_p sM1, Or.inl ⟨rfl, zg0, zg1, rfl, rfl⟩⟩
  · obtain ⟨rfl, zx⟩ := zx
    rcases zx with zx | zx
    · obtain ⟨rfl, zf⟩ := zx
      refine qq_catch (name := "java/lang/IndexOutOfBoundsException") (n := 13) (loc' := [(0, .ref 80), (1, .int p0), (2, .ref o)]) [] (0, 10, 13, 19) [(0, 10, 16, 88)] rfl (fun z hz => nomatch hz) (fun z hz => by obtain rfl := List.mem_singleton.mp hz; exact ⟨rfl, by decide, kl_L_19, rfl⟩) rfl rfl (by decide +kernel) (i := 3) (ln := 1) [0, 1, 2] (Or.inl ⟨dL_lower_13, by decide, rfl⟩) (Nat.le_of_ble_eq_true rfl) rfl ?_
      refine qq_iconst (v := 1) dL_lower_14 (by decide) ?_
      exact qq_iret dL_lower_15 rfl rfl ⟨1, n, S, rfl, hS, ho, lsx_r (sm_r hp), (Or.inr (Or.inl ⟨rfl, zf, rfl, rfl⟩))⟩
    · obtain ⟨rfl, zg0, zf⟩ := zx
      refine qq_catch (name := "java/lang/IllegalStateException") (n := 16) (loc' := [(0, .ref 80), (1, .int p0), (2, .ref o)]) [(0, 10, 13, 19)] (0, 10, 16, 88) [] rfl (fun z hz => by simp only [tableOf, List.map_cons, List.map_nil, List.mem_cons, List.not_mem_nil, or_false] at hz; rcases hz with rfl <;> first | exact ⟨by decide, "java/lang/IndexOutOfBoundsException", kl_L_19, by decide +kernel⟩) (fun z hz => by obtain rfl := List.mem_singleton.mp hz; exact ⟨rfl, by decide, kl_L_88, rfl⟩) rfl rfl (by decide +kernel) (i := 3) (ln := 1) [0, 1, 2] (Or.inl ⟨dL_lower_16, by decide, rfl⟩) (Nat.le_of_ble_eq_true rfl) rfl ?_
      refine qq_iconst (v := 2) dL_lower_17 (by decide) ?_
      exact qq_iret dL_lower_18 rfl rfl ⟨2, n, S, rfl, hS, ho, lsx_r (sm_r hp), (Or.inr (Or.inr ⟨rfl, zg0, zf, rfl, rfl⟩))⟩
set_option maxRecDepth 4000 in
theorem mt_L_order (hp : qq_H) (S : sX) (hS : cs_X S hp) (o : Nat) (n : Int64) (sv : Value) (ho : hp.2 o = .inr (3, [.long n, sv])) (hoE : 84 ≤ o) (p0 p1 : Int32) : qq_Mt mL_order [.ref 80, .int p0, .int p1, .ref o] hp 2 12 (fun v hp' => ∃ (k : Int32) (n' : Int64) (S' : sX), v = some (.int k) ∧ cs_X S' hp' ∧ hp'.2 o = .inr (3, [.long n', sv]) ∧ ls_X o hp hp' ∧ ((k = 0 ∧ (¬ p0 < 0 ∧ ¬ 8 ≤ p0) ∧ (¬ p1 < 0 ∧ ¬ 8 ≤ p1) ∧ S' = S ∧ n' = (r_X5_order p0 p1 S).toInt64) ∨ (k = 1 ∧ (p0 < 0 ∨ 8 ≤ p0) ∧ S' = S ∧ n' = n) ∨ (k = 1 ∧ (¬ p0 < 0 ∧ ¬ 8 ≤ p0) ∧ (p1 < 0 ∨ 8 ≤ p1) ∧ S' = S ∧ n' = n))) (fun _ _ => False) := by
  refine qq_met pn_L (Nat.le_of_ble_eq_true rfl) (Nat.le_of_ble_eq_true rfl) kc_L_order ?_
  show qq_Go _ hp 2 12 0 [(0, .ref 80), (1, .int p0), (2, .int p1), (3, .ref o)] [] _ _
  refine qq_aload_n dL_order_0 rfl 3 rfl ?_
  refine qq_aload_n dL_order_1 rfl 0 rfl ?_
  refine qq_iload_n dL_order_2 rfl 1 rfl ?_
  refine qq_iload_n dL_order_3 rfl 2 rfl ?_
  refine qq_callV (bc := 0) (bs := 0) (mc := 2) (ms := 12) (o := 80) (ci := 2) (N := 6) (T := TX5) (as := [.int p0, .int p1]) (rest := [.ref o]) dL_order_4 hS.2.2.1 (by decide) rfl (mt_X5_order hp S hS p0 p1) rfl kl_L_110 kn_X5_order ke_X5_order ki_X5 kc_X5_order kd_X5_order rfl (by decide) (by decide) (Nat.le_of_ble_eq_true rfl) (fun v hp1 hv _ _ => ?_) (fun E hp1 zx _ _ => ?_)
  · obtain ⟨rfl, rfl, zg0, zg1⟩ := hv
    have hS1 := hS
    have sM1 := sm_r hp
    refine qq_i2l dL_order_7 ?_
    have ho1 : hp.2 o = .inr (3, [.long n, sv]) := (sM1.2 o (Or.inr hoE)).trans ho
    refine qq_putN (C := RX6) (host := "QuarterpowersLaw") (T := TX6) (N := 2) (ty := .long) dL_order_8 ho1 (show 80 ≤ o by omega) rfl 0 (by decide) (Nat.le_of_ble_eq_true rfl) ku_X6 (by decide +kernel) tyX6 tyX6_ok nmX6 rfl (by decide +kernel) (fun _ => rfl) (fun _ => rfl) ?_
    refine qq_goto (tgt := 18) dL_order_11 (by decide) ?_
    refine qq_iconst (v := 0) dL_order_18 (by decide) ?_
    exact qq_iret dL_order_19 rfl rfl ⟨0, (r_X5_order p0 p1 S).toInt64, S, rfl, cs_up hS1 hoE, up_p, lsx_p sM1, Or.inl ⟨rfl, zg0, zg1, rfl, rfl⟩⟩
  · obtain ⟨rfl, zx⟩ := zx
    rcases zx with zx | zx
    · obtain ⟨rfl, zf⟩ := zx
      refine qq_catch (name := "java/lang/IndexOutOfBoundsException") (n := 14) (loc' := [(0, .ref 80), (1, .int p0), (2, .int p1), (3, .ref o)]) [] (0, 11, 14, 19) [] rfl (fun z hz => nomatch hz) (fun z hz => by obtain rfl := List.mem_singleton.mp hz; exact ⟨rfl, by decide, kl_L_19, rfl⟩) rfl rfl (by decide +kernel) (i := 4) (ln := 2) [0, 1, 2, 3] (Or.inr ⟨dL_order_14, rfl⟩) (Nat.le_of_ble_eq_true rfl) rfl ?_
      refine qq_iconst (v := 1) dL_order_16 (by decide) ?_
      exact qq_iret dL_order_17 rfl rfl ⟨1, n, S, rfl, hS, ho, lsx_r (sm_r hp), (Or.inr (Or.inl ⟨rfl, zf, rfl, rfl⟩))⟩
    · obtain ⟨rfl, zg0, zf⟩ := zx
      refine qq_catch (name := "java/lang/IndexOutOfBoundsException") (n := 14) (loc' := [(0, .ref 80), (1, .int p0), (2, .int p1), (3, .ref o)]) [] (0, 11, 14, 19) [] rfl (fun z hz => nomatch hz) (fun z hz => by obtain rfl := List.mem_singleton.mp hz; exact ⟨rfl, by decide, kl_L_19, rfl⟩) rfl rfl (by decide +kernel) (i := 4) (ln := 2) [0, 1, 2, 3] (Or.inr ⟨dL_order_14, rfl⟩) (Nat.le_of_ble_eq_true rfl) rfl ?_
      refine qq_iconst (v := 1) dL_order_16 (by decide) ?_
      exact qq_iret dL_order_17 rfl rfl ⟨1, n, S, rfl, hS, ho, lsx_r (sm_r hp), (Or.inr (Or.inr ⟨rfl, zg0, zf, rfl, rfl⟩))⟩
set_option maxRecDepth 4000 in
theorem mt_L_isAlike (hp : qq_H) (S : sX) (hS : cs_X S hp) (o : Nat) (n : Int64) (sv : Value) (ho : hp.2 o = .inr (3, [.long n, sv])) (hoE : 84 ≤ o) (p0 p1 : Int32) : qq_Mt mL_isAlike [.ref 80, .int p0, .int p1, .ref o] hp 2 12 (fun v hp' => ∃ (k : Int32) (n' : Int64) (S' : sX), v = some (.int k) ∧ cs_X S' hp' ∧ hp'.2 o = .inr (3, [.long n', sv]) ∧ ls_X o hp hp' ∧ ((k = 0 ∧ (¬ p0 < 0 ∧ ¬ 8 ≤ p0) ∧ (¬ p1 < 0 ∧ ¬ 8 ≤ p1) ∧ S' = S ∧ n' = if (r_X5_isAlike p0 p1 S) = 0 then 0 else 1) ∨ (k = 1 ∧ (p0 < 0 ∨ 8 ≤ p0) ∧ S' = S ∧ n' = n) ∨ (k = 1 ∧ (¬ p0 < 0 ∧ ¬ 8 ≤ p0) ∧ (p1 < 0 ∨ 8 ≤ p1) ∧ S' = S ∧ n' = n))) (fun _ _ => False) := by
  refine qq_met pn_L (Nat.le_of_ble_eq_true rfl) (Nat.le_of_ble_eq_true rfl) kc_L_isAlike ?_
  show qq_Go _ hp 2 12 0 [(0, .ref 80), (1, .int p0), (2, .int p1), (3, .ref o)] [] _ _
  refine qq_aload_n dL_isAlike_0 rfl 3 rfl ?_
  refine qq_aload_n dL_isAlike_1 rfl 0 rfl ?_
  refine qq_iload_n dL_isAlike_2 rfl 1 rfl ?_
  refine qq_iload_n dL_isAlike_3 rfl 2 rfl ?_
  refine qq_callV (bc := 0) (bs := 0) (mc := 2) (ms := 12) (o := 80) (ci := 2) (N := 6) (T := TX5) (as := [.int p0, .int p1]) (rest := [.ref o]) dL_isAlike_4 hS.2.2.1 (by decide) rfl (mt_X5_isAlike hp S hS p0 p1) rfl kl_L_113 kn_X5_isAlike ke_X5_isAlike ki_X5 kc_X5_isAlike kd_X5_isAlike rfl (by decide) (by decide) (Nat.le_of_ble_eq_true rfl) (fun v hp1 hv _ _ => ?_) (fun E hp1 zx _ _ => ?_)
  · obtain ⟨rfl, rfl, zg0, zg1⟩ := hv
    have hS1 := hS
    have sM1 := sm_r hp
    refine qq_if_eq (tgt := 14) dL_isAlike_7 (by decide) (fun zc => ?_) (fun zc => ?_)
    · refine qq_lconst (v := 0) dL_isAlike_14 (by decide) ?_
      have ho1 : hp.2 o = .inr (3, [.long n, sv]) := (sM1.2 o (Or.inr hoE)).trans ho
      refine qq_putN (C := RX6) (host := "QuarterpowersLaw") (T := TX6) (N := 2) (ty := .long) dL_isAlike_15 ho1 (show 80 ≤ o by omega) rfl 0 (by decide) (Nat.le_of_ble_eq_true rfl) ku_X6 (by decide +kernel) tyX6 tyX6_ok nmX6 rfl (by decide +kernel) (fun _ => rfl) (fun _ => rfl) ?_
      refine qq_goto (tgt := 25) dL_isAlike_18 (by decide) ?_
      refine qq_iconst (v := 0) dL_isAlike_25 (by decide) ?_
      exact qq_iret dL_isAlike_26 rfl rfl ⟨0, 0, S, rfl, cs_up hS1 hoE, up_p, lsx_p sM1, Or.inl ⟨rfl, zg0, zg1, rfl, by rw [if_pos zc]⟩⟩
    · refine qq_lconst (v := 1) dL_isAlike_10 (by decide) ?_
      refine qq_goto (tgt := 15) dL_isAlike_11 (by decide) ?_
      have ho1 : hp.2 o = .inr (3, [.long n, sv]) := (sM1.2 o (Or.inr hoE)).trans ho
      refine qq_putN (C := RX6) (host := "QuarterpowersLaw") (T := TX6) (N := 2) (ty := .long) dL_isAlike_15 ho1 (show 80 ≤ o by omega) rfl 0 (by decide) (Nat.le_of_ble_eq_true rfl) ku_X6 (by decide +kernel) tyX6 tyX6_ok nmX6 rfl (by decide +kernel) (fun _ => rfl) (fun _ => rfl) ?_
      refine qq_goto (tgt := 25) dL_isAlike_18 (by decide) ?_
      refine qq_iconst (v := 0) dL_isAlike_25 (by decide) ?_
      exact qq_iret dL_isAlike_26 rfl rfl ⟨0, 1, S, rfl, cs_up hS1 hoE, up_p, lsx_p sM1, Or.inl ⟨rfl, zg0, zg1, rfl, by rw [if_neg zc]⟩⟩
  · obtain ⟨rfl, zx⟩ := zx
    rcases zx with zx | zx
    · obtain ⟨rfl, zf⟩ := zx
      refine qq_catch (name := "java/lang/IndexOutOfBoundsException") (n := 21) (loc' := [(0, .ref 80), (1, .int p0), (2, .int p1), (3, .ref o)]) [] (0, 18, 21, 19) [] rfl (fun z hz => nomatch hz) (fun z hz => by obtain rfl := List.mem_singleton.mp hz; exact ⟨rfl, by decide, kl_L_19, rfl⟩) rfl rfl (by decide +kernel) (i := 4) (ln := 2) [0, 1, 2, 3] (Or.inr ⟨dL_isAlike_21, rfl⟩) (Nat.le_of_ble_eq_true rfl) rfl ?_
      refine qq_iconst (v := 1) dL_isAlike_23 (by decide) ?_
      exact qq_iret dL_isAlike_24 rfl rfl ⟨1, n, S, rfl, hS, ho, lsx_r (sm_r hp), (Or.inr (Or.inl ⟨rfl, zf, rfl, rfl⟩))⟩
    · obtain ⟨rfl, zg0, zf⟩ := zx
      refine qq_catch (name := "java/lang/IndexOutOfBoundsException") (n := 21) (loc' := [(0, .ref 80), (1, .int p0), (2, .int p1), (3, .ref o)]) [] (0, 18, 21, 19) [] rfl (fun z hz => nomatch hz) (fun z hz => by obtain rfl := List.mem_singleton.mp hz; exact ⟨rfl, by decide, kl_L_19, rfl⟩) rfl rfl (by decide +kernel) (i := 4) (ln := 2) [0, 1, 2, 3] (Or.inr ⟨dL_isAlike_21, rfl⟩) (Nat.le_of_ble_eq_true rfl) rfl ?_
      refine qq_iconst (v := 1) dL_isAlike_23 (by decide) ?_
      exact qq_iret dL_isAlike_24 rfl rfl ⟨1, n, S, rfl, hS, ho, lsx_r (sm_r hp), (Or.inr (Or.inr ⟨rfl, zg0, zf, rfl, rfl⟩))⟩
set_option maxRecDepth 4000 in
theorem mt_L_isNear (hp : qq_H) (S : sX) (hS : cs_X S hp) (o : Nat) (n : Int64) (sv : Value) (ho : hp.2 o = .inr (3, [.long n, sv])) (hoE : 84 ≤ o) (p0 p1 : Int32) : qq_Mt mL_isNear [.ref 80, .int p0, .int p1, .ref o] hp 2 12 (fun v hp' => ∃ (k : Int32) (n' : Int64) (S' : sX), v = some (.int k) ∧ cs_X S' hp' ∧ hp'.2 o = .inr (3, [.long n', sv]) ∧ ls_X o hp hp' ∧ ((k = 0 ∧ (¬ p0 < 0 ∧ ¬ 8 ≤ p0) ∧ (¬ p1 < 0 ∧ ¬ 8 ≤ p1) ∧ S' = S ∧ n' = if (r_X5_isNear p0 p1 S) = 0 then 0 else 1) ∨ (k = 1 ∧ (p0 < 0 ∨ 8 ≤ p0) ∧ S' = S ∧ n' = n) ∨ (k = 1 ∧ (¬ p0 < 0 ∧ ¬ 8 ≤ p0) ∧ (p1 < 0 ∨ 8 ≤ p1) ∧ S' = S ∧ n' = n))) (fun _ _ => False) := by
  refine qq_met pn_L (Nat.le_of_ble_eq_true rfl) (Nat.le_of_ble_eq_true rfl) kc_L_isNear ?_
  show qq_Go _ hp 2 12 0 [(0, .ref 80), (1, .int p0), (2, .int p1), (3, .ref o)] [] _ _
  refine qq_aload_n dL_isNear_0 rfl 3 rfl ?_
  refine qq_aload_n dL_isNear_1 rfl 0 rfl ?_
  refine qq_iload_n dL_isNear_2 rfl 1 rfl ?_
  refine qq_iload_n dL_isNear_3 rfl 2 rfl ?_
  refine qq_callV (bc := 0) (bs := 0) (mc := 2) (ms := 12) (o := 80) (ci := 2) (N := 6) (T := TX5) (as := [.int p0, .int p1]) (rest := [.ref o]) dL_isNear_4 hS.2.2.1 (by decide) rfl (mt_X5_isNear hp S hS p0 p1) rfl kl_L_117 kn_X5_isNear ke_X5_isNear ki_X5 kc_X5_isNear kd_X5_isNear rfl (by decide) (by decide) (Nat.le_of_ble_eq_true rfl) (fun v hp1 hv _ _ => ?_) (fun E hp1 zx _ _ => ?_)
  · obtain ⟨rfl, rfl, zg0, zg1⟩ := hv
    have hS1 := hS
    have sM1 := sm_r hp
    refine qq_if_eq (tgt := 14) dL_isNear_7 (by decide) (fun zc => ?_) (fun zc => ?_)
    · refine qq_lconst (v := 0) dL_isNear_14 (by decide) ?_
      have ho1 : hp.2 o = .inr (3, [.long n, sv]) := (sM1.2 o (Or.inr hoE)).trans ho
      refine qq_putN (C := RX6) (host := "QuarterpowersLaw") (T := TX6) (N := 2) (ty := .long) dL_isNear_15 ho1 (show 80 ≤ o by omega) rfl 0 (by decide) (Nat.le_of_ble_eq_true rfl) ku_X6 (by decide +kernel) tyX6 tyX6_ok nmX6 rfl (by decide +kernel) (fun _ => rfl) (fun _ => rfl) ?_
      refine qq_goto (tgt := 25) dL_isNear_18 (by decide) ?_
      refine qq_iconst (v := 0) dL_isNear_25 (by decide) ?_
      exact qq_iret dL_isNear_26 rfl rfl ⟨0, 0, S, rfl, cs_up hS1 hoE, up_p, lsx_p sM1, Or.inl ⟨rfl, zg0, zg1, rfl, by rw [if_pos zc]⟩⟩
    · refine qq_lconst (v := 1) dL_isNear_10 (by decide) ?_
      refine qq_goto (tgt := 15) dL_isNear_11 (by decide) ?_
      have ho1 : hp.2 o = .inr (3, [.long n, sv]) := (sM1.2 o (Or.inr hoE)).trans ho
      refine qq_putN (C := RX6) (host := "QuarterpowersLaw") (T := TX6) (N := 2) (ty := .long) dL_isNear_15 ho1 (show 80 ≤ o by omega) rfl 0 (by decide) (Nat.le_of_ble_eq_true rfl) ku_X6 (by decide +kernel) tyX6 tyX6_ok nmX6 rfl (by decide +kernel) (fun _ => rfl) (fun _ => rfl) ?_
      refine qq_goto (tgt := 25) dL_isNear_18 (by decide) ?_
      refine qq_iconst (v := 0) dL_isNear_25 (by decide) ?_
      exact qq_iret dL_isNear_26 rfl rfl ⟨0, 1, S, rfl, cs_up hS1 hoE, up_p, lsx_p sM1, Or.inl ⟨rfl, zg0, zg1, rfl, by rw [if_neg zc]⟩⟩
  · obtain ⟨rfl, zx⟩ := zx
    rcases zx with zx | zx
    · obtain ⟨rfl, zf⟩ := zx
      refine qq_catch (name := "java/lang/IndexOutOfBoundsException") (n := 21) (loc' := [(0, .ref 80), (1, .int p0), (2, .int p1), (3, .ref o)]) [] (0, 18, 21, 19) [] rfl (fun z hz => nomatch hz) (fun z hz => by obtain rfl := List.mem_singleton.mp hz; exact ⟨rfl, by decide, kl_L_19, rfl⟩) rfl rfl (by decide +kernel) (i := 4) (ln := 2) [0, 1, 2, 3] (Or.inr ⟨dL_isNear_21, rfl⟩) (Nat.le_of_ble_eq_true rfl) rfl ?_
      refine qq_iconst (v := 1) dL_isNear_23 (by decide) ?_
      exact qq_iret dL_isNear_24 rfl rfl ⟨1, n, S, rfl, hS, ho, lsx_r (sm_r hp), (Or.inr (Or.inl ⟨rfl, zf, rfl, rfl⟩))⟩
    · obtain ⟨rfl, zg0, zf⟩ := zx
      refine qq_catch (name := "java/lang/IndexOutOfBoundsException") (n := 21) (loc' := [(0, .ref 80), (1, .int p0), (2, .int p1), (3, .ref o)]) [] (0, 18, 21, 19) [] rfl (fun z hz => nomatch hz) (fun z hz => by obtain rfl := List.mem_singleton.mp hz; exact ⟨rfl, by decide, kl_L_19, rfl⟩) rfl rfl (by decide +kernel) (i := 4) (ln := 2) [0, 1, 2, 3] (Or.inr ⟨dL_isNear_21, rfl⟩) (Nat.le_of_ble_eq_true rfl) rfl ?_
      refine qq_iconst (v := 1) dL_isNear_23 (by decide) ?_
      exact qq_iret dL_isNear_24 rfl rfl ⟨1, n, S, rfl, hS, ho, lsx_r (sm_r hp), (Or.inr (Or.inr ⟨rfl, zg0, zf, rfl, rfl⟩))⟩
set_option maxRecDepth 4000 in
theorem mt_L_most (hp : qq_H) (S : sX) (hS : cs_X S hp) (o : Nat) (n : Int64) (sv : Value) (ho : hp.2 o = .inr (3, [.long n, sv])) (hoE : 84 ≤ o) (p0 p1 : Int32) : qq_Mt mL_most [.ref 80, .int p0, .int p1, .ref o] hp 3 18 (fun v hp' => ∃ (k : Int32) (n' : Int64) (S' : sX), v = some (.int k) ∧ cs_X S' hp' ∧ hp'.2 o = .inr (3, [.long n', sv]) ∧ ls_X o hp hp' ∧ ((k = 0 ∧ (¬ p0 < 0 ∧ ¬ 8 ≤ p0) ∧ (¬ p1 < 0 ∧ ¬ 8 ≤ p1) ∧ (¬ f_X2_areNear (S.1 p0.toNatClampNeg) (S.1 p1.toNatClampNeg) = 0) ∧ S' = S ∧ n' = (r_X5_most p0 p1 S).toInt64) ∨ (k = 1 ∧ (p0 < 0 ∨ 8 ≤ p0) ∧ S' = S ∧ n' = n) ∨ (k = 1 ∧ (¬ p0 < 0 ∧ ¬ 8 ≤ p0) ∧ (p1 < 0 ∨ 8 ≤ p1) ∧ S' = S ∧ n' = n) ∨ (k = 2 ∧ (¬ p0 < 0 ∧ ¬ 8 ≤ p0) ∧ (¬ p1 < 0 ∧ ¬ 8 ≤ p1) ∧ (f_X2_areNear (S.1 p0.toNatClampNeg) (S.1 p1.toNatClampNeg) = 0) ∧ S' = S ∧ n' = n))) (fun _ _ => False) := by
  refine qq_met pn_L (Nat.le_of_ble_eq_true rfl) (Nat.le_of_ble_eq_true rfl) kc_L_most ?_
  show qq_Go _ hp 3 18 0 [(0, .ref 80), (1, .int p0), (2, .int p1), (3, .ref o)] [] _ _
  refine qq_aload_n dL_most_0 rfl 3 rfl ?_
  refine qq_aload_n dL_most_1 rfl 0 rfl ?_
  refine qq_iload_n dL_most_2 rfl 1 rfl ?_
  refine qq_iload_n dL_most_3 rfl 2 rfl ?_
  refine qq_callV (bc := 0) (bs := 0) (mc := 3) (ms := 18) (o := 80) (ci := 2) (N := 6) (T := TX5) (as := [.int p0, .int p1]) (rest := [.ref o]) dL_most_4 hS.2.2.1 (by decide) rfl (mt_X5_most hp S hS p0 p1) rfl kl_L_120 kn_X5_most ke_X5_most ki_X5 kc_X5_most kd_X5_most rfl (by decide) (by decide) (Nat.le_of_ble_eq_true rfl) (fun v hp1 hv _ _ => ?_) (fun E hp1 zx _ _ => ?_)
  · obtain ⟨rfl, rfl, zg0, zg1, zg2⟩ := hv
    have hS1 := hS
    have sM1 := sm_r hp
    refine qq_i2l dL_most_7 ?_
    have ho1 : hp.2 o = .inr (3, [.long n, sv]) := (sM1.2 o (Or.inr hoE)).trans ho
    refine qq_putN (C := RX6) (host := "QuarterpowersLaw") (T := TX6) (N := 2) (ty := .long) dL_most_8 ho1 (show 80 ≤ o by omega) rfl 0 (by decide) (Nat.le_of_ble_eq_true rfl) ku_X6 (by decide +kernel) tyX6 tyX6_ok nmX6 rfl (by decide +kernel) (fun _ => rfl) (fun _ => rfl) ?_
    refine qq_goto (tgt := 22) dL_most_11 (by decide) ?_
    refine qq_iconst (v := 0) dL_most_22 (by decide) ?_
    exact qq_iret dL_most_23 rfl rfl ⟨0, (r_X5_most p0 p1 S).toInt64, S, rfl, cs_up hS1 hoE, up_p, lsx_p sM1, Or.inl ⟨rfl, zg0, zg1, zg2, rfl, rfl⟩⟩
  · obtain ⟨rfl, zx⟩ := zx
    rcases zx with zx | zx
    · obtain ⟨rfl, zf⟩ := zx
      refine qq_catch (name := "java/lang/IndexOutOfBoundsException") (n := 14) (loc' := [(0, .ref 80), (1, .int p0), (2, .int p1), (3, .ref o)]) [] (0, 11, 14, 19) [(0, 11, 18, 88)] rfl (fun z hz => nomatch hz) (fun z hz => by obtain rfl := List.mem_singleton.mp hz; exact ⟨rfl, by decide, kl_L_19, rfl⟩) rfl rfl (by decide +kernel) (i := 4) (ln := 2) [0, 1, 2, 3] (Or.inr ⟨dL_most_14, rfl⟩) (Nat.le_of_ble_eq_true rfl) rfl ?_
      refine qq_iconst (v := 1) dL_most_16 (by decide) ?_
      exact qq_iret dL_most_17 rfl rfl ⟨1, n, S, rfl, hS, ho, lsx_r (sm_r hp), (Or.inr (Or.inl ⟨rfl, zf, rfl, rfl⟩))⟩
    · rcases zx with zx | zx
      · obtain ⟨rfl, zg0, zf⟩ := zx
        refine qq_catch (name := "java/lang/IndexOutOfBoundsException") (n := 14) (loc' := [(0, .ref 80), (1, .int p0), (2, .int p1), (3, .ref o)]) [] (0, 11, 14, 19) [(0, 11, 18, 88)] rfl (fun z hz => nomatch hz) (fun z hz => by obtain rfl := List.mem_singleton.mp hz; exact ⟨rfl, by decide, kl_L_19, rfl⟩) rfl rfl (by decide +kernel) (i := 4) (ln := 2) [0, 1, 2, 3] (Or.inr ⟨dL_most_14, rfl⟩) (Nat.le_of_ble_eq_true rfl) rfl ?_
        refine qq_iconst (v := 1) dL_most_16 (by decide) ?_
        exact qq_iret dL_most_17 rfl rfl ⟨1, n, S, rfl, hS, ho, lsx_r (sm_r hp), (Or.inr (Or.inr (Or.inl ⟨rfl, zg0, zf, rfl, rfl⟩)))⟩
      · obtain ⟨rfl, zg0, zg1, zf⟩ := zx
        refine qq_catch (name := "java/lang/IllegalStateException") (n := 18) (loc' := [(0, .ref 80), (1, .int p0), (2, .int p1), (3, .ref o)]) [(0, 11, 14, 19)] (0, 11, 18, 88) [] rfl (fun z hz => by simp only [tableOf, List.map_cons, List.map_nil, List.mem_cons, List.not_mem_nil, or_false] at hz; rcases hz with rfl <;> first | exact ⟨by decide, "java/lang/IndexOutOfBoundsException", kl_L_19, by decide +kernel⟩) (fun z hz => by obtain rfl := List.mem_singleton.mp hz; exact ⟨rfl, by decide, kl_L_88, rfl⟩) rfl rfl (by decide +kernel) (i := 4) (ln := 2) [0, 1, 2, 3] (Or.inr ⟨dL_most_18, rfl⟩) (Nat.le_of_ble_eq_true rfl) rfl ?_
        refine qq_iconst (v := 2) dL_most_20 (by decide) ?_
        exact qq_iret dL_most_21 rfl rfl ⟨2, n, S, rfl, hS, ho, lsx_r (sm_r hp), (Or.inr (Or.inr (Or.inr ⟨rfl, zg0, zg1, zf, rfl, rfl⟩)))⟩
set_option maxRecDepth 4000 in
theorem mt_L_isWithin (hp : qq_H) (S : sX) (hS : cs_X S hp) (o : Nat) (n : Int64) (sv : Value) (ho : hp.2 o = .inr (3, [.long n, sv])) (hoE : 84 ≤ o) (p0 p1 : Int32) : qq_Mt mL_isWithin [.ref 80, .int p0, .int p1, .ref o] hp 3 18 (fun v hp' => ∃ (k : Int32) (n' : Int64) (S' : sX), v = some (.int k) ∧ cs_X S' hp' ∧ hp'.2 o = .inr (3, [.long n', sv]) ∧ ls_X o hp hp' ∧ ((k = 0 ∧ (¬ p0 < 0 ∧ ¬ 8 ≤ p0) ∧ (¬ p1 < 0 ∧ ¬ 8 ≤ p1) ∧ (¬ f_X2_areNear (S.1 p0.toNatClampNeg) (S.1 p1.toNatClampNeg) = 0) ∧ S' = S ∧ n' = if (r_X5_isWithin p0 p1 S) = 0 then 0 else 1) ∨ (k = 1 ∧ (p0 < 0 ∨ 8 ≤ p0) ∧ S' = S ∧ n' = n) ∨ (k = 1 ∧ (¬ p0 < 0 ∧ ¬ 8 ≤ p0) ∧ (p1 < 0 ∨ 8 ≤ p1) ∧ S' = S ∧ n' = n) ∨ (k = 2 ∧ (¬ p0 < 0 ∧ ¬ 8 ≤ p0) ∧ (¬ p1 < 0 ∧ ¬ 8 ≤ p1) ∧ (f_X2_areNear (S.1 p0.toNatClampNeg) (S.1 p1.toNatClampNeg) = 0) ∧ S' = S ∧ n' = n))) (fun _ _ => False) := by
  refine qq_met pn_L (Nat.le_of_ble_eq_true rfl) (Nat.le_of_ble_eq_true rfl) kc_L_isWithin ?_
  show qq_Go _ hp 3 18 0 [(0, .ref 80), (1, .int p0), (2, .int p1), (3, .ref o)] [] _ _
  refine qq_aload_n dL_isWithin_0 rfl 3 rfl ?_
  refine qq_aload_n dL_isWithin_1 rfl 0 rfl ?_
  refine qq_iload_n dL_isWithin_2 rfl 1 rfl ?_
  refine qq_iload_n dL_isWithin_3 rfl 2 rfl ?_
  refine qq_callV (bc := 0) (bs := 0) (mc := 3) (ms := 18) (o := 80) (ci := 2) (N := 6) (T := TX5) (as := [.int p0, .int p1]) (rest := [.ref o]) dL_isWithin_4 hS.2.2.1 (by decide) rfl (mt_X5_isWithin hp S hS p0 p1) rfl kl_L_123 kn_X5_isWithin ke_X5_isWithin ki_X5 kc_X5_isWithin kd_X5_isWithin rfl (by decide) (by decide) (Nat.le_of_ble_eq_true rfl) (fun v hp1 hv _ _ => ?_) (fun E hp1 zx _ _ => ?_)
  · obtain ⟨rfl, rfl, zg0, zg1, zg2⟩ := hv
    have hS1 := hS
    have sM1 := sm_r hp
    refine qq_if_eq (tgt := 14) dL_isWithin_7 (by decide) (fun zc => ?_) (fun zc => ?_)
    · refine qq_lconst (v := 0) dL_isWithin_14 (by decide) ?_
      have ho1 : hp.2 o = .inr (3, [.long n, sv]) := (sM1.2 o (Or.inr hoE)).trans ho
      refine qq_putN (C := RX6) (host := "QuarterpowersLaw") (T := TX6) (N := 2) (ty := .long) dL_isWithin_15 ho1 (show 80 ≤ o by omega) rfl 0 (by decide) (Nat.le_of_ble_eq_true rfl) ku_X6 (by decide +kernel) tyX6 tyX6_ok nmX6 rfl (by decide +kernel) (fun _ => rfl) (fun _ => rfl) ?_
      refine qq_goto (tgt := 29) dL_isWithin_18 (by decide) ?_
      refine qq_iconst (v := 0) dL_isWithin_29 (by decide) ?_
      exact qq_iret dL_isWithin_30 rfl rfl ⟨0, 0, S, rfl, cs_up hS1 hoE, up_p, lsx_p sM1, Or.inl ⟨rfl, zg0, zg1, zg2, rfl, by rw [if_pos zc]⟩⟩
    · refine qq_lconst (v := 1) dL_isWithin_10 (by decide) ?_
      refine qq_goto (tgt := 15) dL_isWithin_11 (by decide) ?_
      have ho1 : hp.2 o = .inr (3, [.long n, sv]) := (sM1.2 o (Or.inr hoE)).trans ho
      refine qq_putN (C := RX6) (host := "QuarterpowersLaw") (T := TX6) (N := 2) (ty := .long) dL_isWithin_15 ho1 (show 80 ≤ o by omega) rfl 0 (by decide) (Nat.le_of_ble_eq_true rfl) ku_X6 (by decide +kernel) tyX6 tyX6_ok nmX6 rfl (by decide +kernel) (fun _ => rfl) (fun _ => rfl) ?_
      refine qq_goto (tgt := 29) dL_isWithin_18 (by decide) ?_
      refine qq_iconst (v := 0) dL_isWithin_29 (by decide) ?_
      exact qq_iret dL_isWithin_30 rfl rfl ⟨0, 1, S, rfl, cs_up hS1 hoE, up_p, lsx_p sM1, Or.inl ⟨rfl, zg0, zg1, zg2, rfl, by rw [if_neg zc]⟩⟩
  · obtain ⟨rfl, zx⟩ := zx
    rcases zx with zx | zx
    · obtain ⟨rfl, zf⟩ := zx
      refine qq_catch (name := "java/lang/IndexOutOfBoundsException") (n := 21) (loc' := [(0, .ref 80), (1, .int p0), (2, .int p1), (3, .ref o)]) [] (0, 18, 21, 19) [(0, 18, 25, 88)] rfl (fun z hz => nomatch hz) (fun z hz => by obtain rfl := List.mem_singleton.mp hz; exact ⟨rfl, by decide, kl_L_19, rfl⟩) rfl rfl (by decide +kernel) (i := 4) (ln := 2) [0, 1, 2, 3] (Or.inr ⟨dL_isWithin_21, rfl⟩) (Nat.le_of_ble_eq_true rfl) rfl ?_
      refine qq_iconst (v := 1) dL_isWithin_23 (by decide) ?_
      exact qq_iret dL_isWithin_24 rfl rfl ⟨1, n, S, rfl, hS, ho, lsx_r (sm_r hp), (Or.inr (Or.inl ⟨rfl, zf, rfl, rfl⟩))⟩
    · rcases zx with zx | zx
      · obtain ⟨rfl, zg0, zf⟩ := zx
        refine qq_catch (name := "java/lang/IndexOutOfBoundsException") (n := 21) (loc' := [(0, .ref 80), (1, .int p0), (2, .int p1), (3, .ref o)]) [] (0, 18, 21, 19) [(0, 18, 25, 88)] rfl (fun z hz => nomatch hz) (fun z hz => by obtain rfl := List.mem_singleton.mp hz; exact ⟨rfl, by decide, kl_L_19, rfl⟩) rfl rfl (by decide +kernel) (i := 4) (ln := 2) [0, 1, 2, 3] (Or.inr ⟨dL_isWithin_21, rfl⟩) (Nat.le_of_ble_eq_true rfl) rfl ?_
        refine qq_iconst (v := 1) dL_isWithin_23 (by decide) ?_
        exact qq_iret dL_isWithin_24 rfl rfl ⟨1, n, S, rfl, hS, ho, lsx_r (sm_r hp), (Or.inr (Or.inr (Or.inl ⟨rfl, zg0, zf, rfl, rfl⟩)))⟩
      · obtain ⟨rfl, zg0, zg1, zf⟩ := zx
        refine qq_catch (name := "java/lang/IllegalStateException") (n := 25) (loc' := [(0, .ref 80), (1, .int p0), (2, .int p1), (3, .ref o)]) [(0, 18, 21, 19)] (0, 18, 25, 88) [] rfl (fun z hz => by simp only [tableOf, List.map_cons, List.map_nil, List.mem_cons, List.not_mem_nil, or_false] at hz; rcases hz with rfl <;> first | exact ⟨by decide, "java/lang/IndexOutOfBoundsException", kl_L_19, by decide +kernel⟩) (fun z hz => by obtain rfl := List.mem_singleton.mp hz; exact ⟨rfl, by decide, kl_L_88, rfl⟩) rfl rfl (by decide +kernel) (i := 4) (ln := 2) [0, 1, 2, 3] (Or.inr ⟨dL_isWithin_25, rfl⟩) (Nat.le_of_ble_eq_true rfl) rfl ?_
        refine qq_iconst (v := 2) dL_isWithin_27 (by decide) ?_
        exact qq_iret dL_isWithin_28 rfl rfl ⟨2, n, S, rfl, hS, ho, lsx_r (sm_r hp), (Or.inr (Or.inr (Or.inr ⟨rfl, zg0, zg1, zf, rfl, rfl⟩)))⟩
set_option maxRecDepth 4000 in
theorem mt_L_find (hp : qq_H) (S : sX) (hS : cs_X S hp) (o : Nat) (n : Int64) (sv : Value) (ho : hp.2 o = .inr (3, [.long n, sv])) (hoE : 84 ≤ o) (p0 p1 : Int32) : qq_Mt mL_find [.ref 80, .int p0, .int p1, .ref o] hp 1 6 (fun v hp' => ∃ (k : Int32) (n' : Int64) (S' : sX), v = some (.int k) ∧ cs_X S' hp' ∧ hp'.2 o = .inr (3, [.long n', sv]) ∧ ls_X o hp hp' ∧ ((k = 0 ∧ (¬ p0 < 0 ∧ ¬ 8 ≤ p0) ∧ S' = S ∧ n' = (r_X5_find p0 p1 S).toInt64) ∨ (k = 1 ∧ (p0 < 0 ∨ 8 ≤ p0) ∧ S' = S ∧ n' = n))) (fun _ _ => False) := by
  refine qq_met pn_L (Nat.le_of_ble_eq_true rfl) (Nat.le_of_ble_eq_true rfl) kc_L_find ?_
  show qq_Go _ hp 1 6 0 [(0, .ref 80), (1, .int p0), (2, .int p1), (3, .ref o)] [] _ _
  refine qq_aload_n dL_find_0 rfl 3 rfl ?_
  refine qq_aload_n dL_find_1 rfl 0 rfl ?_
  refine qq_iload_n dL_find_2 rfl 1 rfl ?_
  refine qq_iload_n dL_find_3 rfl 2 rfl ?_
  refine qq_callV (bc := 0) (bs := 0) (mc := 1) (ms := 6) (o := 80) (ci := 2) (N := 6) (T := TX5) (as := [.int p0, .int p1]) (rest := [.ref o]) dL_find_4 hS.2.2.1 (by decide) rfl (mt_X5_find hp S hS p0 p1) rfl kl_L_126 kn_X5_find ke_X5_find ki_X5 kc_X5_find kd_X5_find rfl (by decide) (by decide) (Nat.le_of_ble_eq_true rfl) (fun v hp1 hv _ _ => ?_) (fun E hp1 zx _ _ => ?_)
  · obtain ⟨rfl, rfl, zg0⟩ := hv
    have hS1 := hS
    have sM1 := sm_r hp
    refine qq_i2l dL_find_7 ?_
    have ho1 : hp.2 o = .inr (3, [.long n, sv]) := (sM1.2 o (Or.inr hoE)).trans ho
    refine qq_putN (C := RX6) (host := "QuarterpowersLaw") (T := TX6) (N := 2) (ty := .long) dL_find_8 ho1 (show 80 ≤ o by omega) rfl 0 (by decide) (Nat.le_of_ble_eq_true rfl) ku_X6 (by decide +kernel) tyX6 tyX6_ok nmX6 rfl (by decide +kernel) (fun _ => rfl) (fun _ => rfl) ?_
    refine qq_goto (tgt := 18) dL_find_11 (by decide) ?_
    refine qq_iconst (v := 0) dL_find_18 (by decide) ?_
    exact qq_iret dL_find_19 rfl rfl ⟨0, (r_X5_find p0 p1 S).toInt64, S, rfl, cs_up hS1 hoE, up_p, lsx_p sM1, Or.inl ⟨rfl, zg0, rfl, rfl⟩⟩
  · obtain ⟨rfl, zx⟩ := zx
    obtain ⟨rfl, zf⟩ := zx
    refine qq_catch (name := "java/lang/IndexOutOfBoundsException") (n := 14) (loc' := [(0, .ref 80), (1, .int p0), (2, .int p1), (3, .ref o)]) [] (0, 11, 14, 19) [] rfl (fun z hz => nomatch hz) (fun z hz => by obtain rfl := List.mem_singleton.mp hz; exact ⟨rfl, by decide, kl_L_19, rfl⟩) rfl rfl (by decide +kernel) (i := 4) (ln := 2) [0, 1, 2, 3] (Or.inr ⟨dL_find_14, rfl⟩) (Nat.le_of_ble_eq_true rfl) rfl ?_
    refine qq_iconst (v := 1) dL_find_16 (by decide) ?_
    exact qq_iret dL_find_17 rfl rfl ⟨1, n, S, rfl, hS, ho, lsx_r (sm_r hp), (Or.inr ⟨rfl, zf, rfl, rfl⟩)⟩
set_option maxRecDepth 4000 in
theorem mt_L_rank (hp : qq_H) (S : sX) (hS : cs_X S hp) (o : Nat) (n : Int64) (sv : Value) (ho : hp.2 o = .inr (3, [.long n, sv])) (hoE : 84 ≤ o) (p0 : Int32) : qq_Mt mL_rank [.ref 80, .int p0, .ref o] hp 1 6 (fun v hp' => ∃ (k : Int32) (n' : Int64) (S' : sX), v = some (.int k) ∧ cs_X S' hp' ∧ hp'.2 o = .inr (3, [.long n', sv]) ∧ ls_X o hp hp' ∧ ((k = 0 ∧ (¬ p0 < 0 ∧ ¬ 8 ≤ p0) ∧ S' = S ∧ n' = (r_X5_rank p0 S).toInt64) ∨ (k = 1 ∧ (p0 < 0 ∨ 8 ≤ p0) ∧ S' = S ∧ n' = n))) (fun _ _ => False) := by
  refine qq_met pn_L (Nat.le_of_ble_eq_true rfl) (Nat.le_of_ble_eq_true rfl) kc_L_rank ?_
  show qq_Go _ hp 1 6 0 [(0, .ref 80), (1, .int p0), (2, .ref o)] [] _ _
  refine qq_aload_n dL_rank_0 rfl 2 rfl ?_
  refine qq_aload_n dL_rank_1 rfl 0 rfl ?_
  refine qq_iload_n dL_rank_2 rfl 1 rfl ?_
  refine qq_callV (bc := 0) (bs := 0) (mc := 1) (ms := 6) (o := 80) (ci := 2) (N := 6) (T := TX5) (as := [.int p0]) (rest := [.ref o]) dL_rank_3 hS.2.2.1 (by decide) rfl (mt_X5_rank hp S hS p0) rfl kl_L_129 kn_X5_rank ke_X5_rank ki_X5 kc_X5_rank kd_X5_rank rfl (by decide) (by decide) (Nat.le_of_ble_eq_true rfl) (fun v hp1 hv _ _ => ?_) (fun E hp1 zx _ _ => ?_)
  · obtain ⟨rfl, rfl, zg0⟩ := hv
    have hS1 := hS
    have sM1 := sm_r hp
    refine qq_i2l dL_rank_6 ?_
    have ho1 : hp.2 o = .inr (3, [.long n, sv]) := (sM1.2 o (Or.inr hoE)).trans ho
    refine qq_putN (C := RX6) (host := "QuarterpowersLaw") (T := TX6) (N := 2) (ty := .long) dL_rank_7 ho1 (show 80 ≤ o by omega) rfl 0 (by decide) (Nat.le_of_ble_eq_true rfl) ku_X6 (by decide +kernel) tyX6 tyX6_ok nmX6 rfl (by decide +kernel) (fun _ => rfl) (fun _ => rfl) ?_
    refine qq_goto (tgt := 16) dL_rank_10 (by decide) ?_
    refine qq_iconst (v := 0) dL_rank_16 (by decide) ?_
    exact qq_iret dL_rank_17 rfl rfl ⟨0, (r_X5_rank p0 S).toInt64, S, rfl, cs_up hS1 hoE, up_p, lsx_p sM1, Or.inl ⟨rfl, zg0, rfl, rfl⟩⟩
  · obtain ⟨rfl, zx⟩ := zx
    obtain ⟨rfl, zf⟩ := zx
    refine qq_catch (name := "java/lang/IndexOutOfBoundsException") (n := 13) (loc' := [(0, .ref 80), (1, .int p0), (2, .ref o)]) [] (0, 10, 13, 19) [] rfl (fun z hz => nomatch hz) (fun z hz => by obtain rfl := List.mem_singleton.mp hz; exact ⟨rfl, by decide, kl_L_19, rfl⟩) rfl rfl (by decide +kernel) (i := 3) (ln := 1) [0, 1, 2] (Or.inl ⟨dL_rank_13, by decide, rfl⟩) (Nat.le_of_ble_eq_true rfl) rfl ?_
    refine qq_iconst (v := 1) dL_rank_14 (by decide) ?_
    exact qq_iret dL_rank_15 rfl rfl ⟨1, n, S, rfl, hS, ho, lsx_r (sm_r hp), (Or.inr ⟨rfl, zf, rfl, rfl⟩)⟩
set_option maxRecDepth 4000 in
theorem mt_L_before (hp : qq_H) (S : sX) (hS : cs_X S hp) (o : Nat) (n : Int64) (sv : Value) (ho : hp.2 o = .inr (3, [.long n, sv])) (hoE : 84 ≤ o) (p0 p1 : Int32) : qq_Mt mL_before [.ref 80, .int p0, .int p1, .ref o] hp 2 12 (fun v hp' => ∃ (k : Int32) (n' : Int64) (S' : sX), v = some (.int k) ∧ cs_X S' hp' ∧ hp'.2 o = .inr (3, [.long n', sv]) ∧ ls_X o hp hp' ∧ ((k = 0 ∧ (¬ p1 < 0 ∧ ¬ 8 ≤ p1) ∧ (¬ p0 < 0 ∧ ¬ 3 < p0) ∧ S' = S ∧ n' = (r_X5_before p0 p1 S).toInt64) ∨ (k = 1 ∧ (p1 < 0 ∨ 8 ≤ p1) ∧ S' = S ∧ n' = n) ∨ (k = 2 ∧ (¬ p1 < 0 ∧ ¬ 8 ≤ p1) ∧ (p0 < 0 ∨ 3 < p0) ∧ S' = S ∧ n' = n))) (fun _ _ => False) := by
  refine qq_met pn_L (Nat.le_of_ble_eq_true rfl) (Nat.le_of_ble_eq_true rfl) kc_L_before ?_
  show qq_Go _ hp 2 12 0 [(0, .ref 80), (1, .int p0), (2, .int p1), (3, .ref o)] [] _ _
  refine qq_aload_n dL_before_0 rfl 3 rfl ?_
  refine qq_aload_n dL_before_1 rfl 0 rfl ?_
  refine qq_iload_n dL_before_2 rfl 1 rfl ?_
  refine qq_iload_n dL_before_3 rfl 2 rfl ?_
  refine qq_callV (bc := 0) (bs := 0) (mc := 2) (ms := 12) (o := 80) (ci := 2) (N := 6) (T := TX5) (as := [.int p0, .int p1]) (rest := [.ref o]) dL_before_4 hS.2.2.1 (by decide) rfl (mt_X5_before hp S hS p0 p1) rfl kl_L_132 kn_X5_before ke_X5_before ki_X5 kc_X5_before kd_X5_before rfl (by decide) (by decide) (Nat.le_of_ble_eq_true rfl) (fun v hp1 hv _ _ => ?_) (fun E hp1 zx _ _ => ?_)
  · obtain ⟨rfl, rfl, zg0, zg1⟩ := hv
    have hS1 := hS
    have sM1 := sm_r hp
    refine qq_i2l dL_before_7 ?_
    have ho1 : hp.2 o = .inr (3, [.long n, sv]) := (sM1.2 o (Or.inr hoE)).trans ho
    refine qq_putN (C := RX6) (host := "QuarterpowersLaw") (T := TX6) (N := 2) (ty := .long) dL_before_8 ho1 (show 80 ≤ o by omega) rfl 0 (by decide) (Nat.le_of_ble_eq_true rfl) ku_X6 (by decide +kernel) tyX6 tyX6_ok nmX6 rfl (by decide +kernel) (fun _ => rfl) (fun _ => rfl) ?_
    refine qq_goto (tgt := 22) dL_before_11 (by decide) ?_
    refine qq_iconst (v := 0) dL_before_22 (by decide) ?_
    exact qq_iret dL_before_23 rfl rfl ⟨0, (r_X5_before p0 p1 S).toInt64, S, rfl, cs_up hS1 hoE, up_p, lsx_p sM1, Or.inl ⟨rfl, zg0, zg1, rfl, rfl⟩⟩
  · obtain ⟨rfl, zx⟩ := zx
    rcases zx with zx | zx
    · obtain ⟨rfl, zf⟩ := zx
      refine qq_catch (name := "java/lang/IndexOutOfBoundsException") (n := 14) (loc' := [(0, .ref 80), (1, .int p0), (2, .int p1), (3, .ref o)]) [] (0, 11, 14, 19) [(0, 11, 18, 21)] rfl (fun z hz => nomatch hz) (fun z hz => by obtain rfl := List.mem_singleton.mp hz; exact ⟨rfl, by decide, kl_L_19, rfl⟩) rfl rfl (by decide +kernel) (i := 4) (ln := 2) [0, 1, 2, 3] (Or.inr ⟨dL_before_14, rfl⟩) (Nat.le_of_ble_eq_true rfl) rfl ?_
      refine qq_iconst (v := 1) dL_before_16 (by decide) ?_
      exact qq_iret dL_before_17 rfl rfl ⟨1, n, S, rfl, hS, ho, lsx_r (sm_r hp), (Or.inr (Or.inl ⟨rfl, zf, rfl, rfl⟩))⟩
    · obtain ⟨rfl, zg0, zf⟩ := zx
      refine qq_catch (name := "java/lang/IllegalArgumentException") (n := 18) (loc' := [(0, .ref 80), (1, .int p0), (2, .int p1), (3, .ref o)]) [(0, 11, 14, 19)] (0, 11, 18, 21) [] rfl (fun z hz => by simp only [tableOf, List.map_cons, List.map_nil, List.mem_cons, List.not_mem_nil, or_false] at hz; rcases hz with rfl <;> first | exact ⟨by decide, "java/lang/IndexOutOfBoundsException", kl_L_19, by decide +kernel⟩) (fun z hz => by obtain rfl := List.mem_singleton.mp hz; exact ⟨rfl, by decide, kl_L_21, rfl⟩) rfl rfl (by decide +kernel) (i := 4) (ln := 2) [0, 1, 2, 3] (Or.inr ⟨dL_before_18, rfl⟩) (Nat.le_of_ble_eq_true rfl) rfl ?_
      refine qq_iconst (v := 2) dL_before_20 (by decide) ?_
      exact qq_iret dL_before_21 rfl rfl ⟨2, n, S, rfl, hS, ho, lsx_r (sm_r hp), (Or.inr (Or.inr ⟨rfl, zg0, zf, rfl, rfl⟩))⟩
set_option maxRecDepth 4000 in
theorem mt_L_answer (hp : qq_H) (S : sX) (hS : cs_X S hp) (o : Nat) (n : Int64) (sv : Value) (ho : hp.2 o = .inr (3, [.long n, sv])) (hoE : 84 ≤ o) (p0 p1 p2 : Int32) : qq_Mt mL_answer [.ref 80, .int p0, .int p1, .int p2, .ref o] hp 4 24 (fun v hp' => ∃ (k : Int32) (n' : Int64) (S' : sX), v = some (.int k) ∧ cs_X S' hp' ∧ hp'.2 o = .inr (3, [.long n', sv]) ∧ ls_X o hp hp' ∧ ((k = 0 ∧ (¬ p0 < 1 ∧ ¬ 3 < p0) ∧ (¬ p1 < (f_X4_firstQ p0) ∧ ¬ (f_X4_lastQ p0) < p1) ∧ (¬ p2 < -62 ∧ ¬ 90 < p2) ∧ (¬ (f_X1_roundedDown (f_X4_digitsAt p0 p1) p2) < -2147483648 ∧ ¬ 2147483647 < (f_X1_roundedDown (f_X4_digitsAt p0 p1) p2)) ∧ S' = S ∧ n' = (r_X5_answer p0 p1 p2 S).toInt64) ∨ (k = 1 ∧ (p0 < 1 ∨ 3 < p0) ∧ S' = S ∧ n' = n) ∨ (k = 1 ∧ (¬ p0 < 1 ∧ ¬ 3 < p0) ∧ (p1 < (f_X4_firstQ p0) ∨ (f_X4_lastQ p0) < p1) ∧ S' = S ∧ n' = n) ∨ (k = 1 ∧ (¬ p0 < 1 ∧ ¬ 3 < p0) ∧ (¬ p1 < (f_X4_firstQ p0) ∧ ¬ (f_X4_lastQ p0) < p1) ∧ (p2 < -62 ∨ 90 < p2) ∧ S' = S ∧ n' = n) ∨ (k = 2 ∧ (¬ p0 < 1 ∧ ¬ 3 < p0) ∧ (¬ p1 < (f_X4_firstQ p0) ∧ ¬ (f_X4_lastQ p0) < p1) ∧ (¬ p2 < -62 ∧ ¬ 90 < p2) ∧ ((f_X1_roundedDown (f_X4_digitsAt p0 p1) p2) < -2147483648 ∨ 2147483647 < (f_X1_roundedDown (f_X4_digitsAt p0 p1) p2)) ∧ S' = S ∧ n' = n))) (fun _ _ => False) := by
  refine qq_met pn_L (Nat.le_of_ble_eq_true rfl) (Nat.le_of_ble_eq_true rfl) kc_L_answer ?_
  show qq_Go _ hp 4 24 0 [(0, .ref 80), (1, .int p0), (2, .int p1), (3, .int p2), (4, .ref o)] [] _ _
  refine qq_aload dL_answer_0 4 rfl ?_
  refine qq_aload_n dL_answer_2 rfl 0 rfl ?_
  refine qq_iload_n dL_answer_3 rfl 1 rfl ?_
  refine qq_iload_n dL_answer_4 rfl 2 rfl ?_
  refine qq_iload_n dL_answer_5 rfl 3 rfl ?_
  refine qq_callV (bc := 0) (bs := 0) (mc := 4) (ms := 24) (o := 80) (ci := 2) (N := 6) (T := TX5) (as := [.int p0, .int p1, .int p2]) (rest := [.ref o]) dL_answer_6 hS.2.2.1 (by decide) rfl (mt_X5_answer hp S hS p0 p1 p2) rfl kl_L_135 kn_X5_answer ke_X5_answer ki_X5 kc_X5_answer kd_X5_answer rfl (by decide) (by decide) (Nat.le_of_ble_eq_true rfl) (fun v hp1 hv _ _ => ?_) (fun E hp1 zx _ _ => ?_)
  · obtain ⟨rfl, rfl, zg0, zg1, zg2, zg3⟩ := hv
    have hS1 := hS
    have sM1 := sm_r hp
    refine qq_i2l dL_answer_9 ?_
    have ho1 : hp.2 o = .inr (3, [.long n, sv]) := (sM1.2 o (Or.inr hoE)).trans ho
    refine qq_putN (C := RX6) (host := "QuarterpowersLaw") (T := TX6) (N := 2) (ty := .long) dL_answer_10 ho1 (show 80 ≤ o by omega) rfl 0 (by decide) (Nat.le_of_ble_eq_true rfl) ku_X6 (by decide +kernel) tyX6 tyX6_ok nmX6 rfl (by decide +kernel) (fun _ => rfl) (fun _ => rfl) ?_
    refine qq_goto (tgt := 24) dL_answer_13 (by decide) ?_
    refine qq_iconst (v := 0) dL_answer_24 (by decide) ?_
    exact qq_iret dL_answer_25 rfl rfl ⟨0, (r_X5_answer p0 p1 p2 S).toInt64, S, rfl, cs_up hS1 hoE, up_p, lsx_p sM1, Or.inl ⟨rfl, zg0, zg1, zg2, zg3, rfl, rfl⟩⟩
  · obtain ⟨rfl, zx⟩ := zx
    rcases zx with zx | zx
    · obtain ⟨rfl, zf⟩ := zx
      refine qq_catch (name := "java/lang/IllegalArgumentException") (n := 16) (loc' := [(0, .ref 80), (1, .int p0), (2, .int p1), (3, .int p2), (4, .ref o)]) [] (0, 13, 16, 21) [(0, 13, 20, 88)] rfl (fun z hz => nomatch hz) (fun z hz => by obtain rfl := List.mem_singleton.mp hz; exact ⟨rfl, by decide, kl_L_21, rfl⟩) rfl rfl (by decide +kernel) (i := 5) (ln := 2) [0, 1, 2, 3, 4] (Or.inr ⟨dL_answer_16, rfl⟩) (Nat.le_of_ble_eq_true rfl) rfl ?_
      refine qq_iconst (v := 1) dL_answer_18 (by decide) ?_
      exact qq_iret dL_answer_19 rfl rfl ⟨1, n, S, rfl, hS, ho, lsx_r (sm_r hp), (Or.inr (Or.inl ⟨rfl, zf, rfl, rfl⟩))⟩
    · rcases zx with zx | zx
      · obtain ⟨rfl, zg0, zf⟩ := zx
        refine qq_catch (name := "java/lang/IllegalArgumentException") (n := 16) (loc' := [(0, .ref 80), (1, .int p0), (2, .int p1), (3, .int p2), (4, .ref o)]) [] (0, 13, 16, 21) [(0, 13, 20, 88)] rfl (fun z hz => nomatch hz) (fun z hz => by obtain rfl := List.mem_singleton.mp hz; exact ⟨rfl, by decide, kl_L_21, rfl⟩) rfl rfl (by decide +kernel) (i := 5) (ln := 2) [0, 1, 2, 3, 4] (Or.inr ⟨dL_answer_16, rfl⟩) (Nat.le_of_ble_eq_true rfl) rfl ?_
        refine qq_iconst (v := 1) dL_answer_18 (by decide) ?_
        exact qq_iret dL_answer_19 rfl rfl ⟨1, n, S, rfl, hS, ho, lsx_r (sm_r hp), (Or.inr (Or.inr (Or.inl ⟨rfl, zg0, zf, rfl, rfl⟩)))⟩
      · rcases zx with zx | zx
        · obtain ⟨rfl, zg0, zg1, zf⟩ := zx
          refine qq_catch (name := "java/lang/IllegalArgumentException") (n := 16) (loc' := [(0, .ref 80), (1, .int p0), (2, .int p1), (3, .int p2), (4, .ref o)]) [] (0, 13, 16, 21) [(0, 13, 20, 88)] rfl (fun z hz => nomatch hz) (fun z hz => by obtain rfl := List.mem_singleton.mp hz; exact ⟨rfl, by decide, kl_L_21, rfl⟩) rfl rfl (by decide +kernel) (i := 5) (ln := 2) [0, 1, 2, 3, 4] (Or.inr ⟨dL_answer_16, rfl⟩) (Nat.le_of_ble_eq_true rfl) rfl ?_
          refine qq_iconst (v := 1) dL_answer_18 (by decide) ?_
          exact qq_iret dL_answer_19 rfl rfl ⟨1, n, S, rfl, hS, ho, lsx_r (sm_r hp), (Or.inr (Or.inr (Or.inr (Or.inl ⟨rfl, zg0, zg1, zf, rfl, rfl⟩))))⟩
        · obtain ⟨rfl, zg0, zg1, zg2, zf⟩ := zx
          refine qq_catch (name := "java/lang/IllegalStateException") (n := 20) (loc' := [(0, .ref 80), (1, .int p0), (2, .int p1), (3, .int p2), (4, .ref o)]) [(0, 13, 16, 21)] (0, 13, 20, 88) [] rfl (fun z hz => by simp only [tableOf, List.map_cons, List.map_nil, List.mem_cons, List.not_mem_nil, or_false] at hz; rcases hz with rfl <;> first | exact ⟨by decide, "java/lang/IllegalArgumentException", kl_L_21, by decide +kernel⟩) (fun z hz => by obtain rfl := List.mem_singleton.mp hz; exact ⟨rfl, by decide, kl_L_88, rfl⟩) rfl rfl (by decide +kernel) (i := 5) (ln := 2) [0, 1, 2, 3, 4] (Or.inr ⟨dL_answer_20, rfl⟩) (Nat.le_of_ble_eq_true rfl) rfl ?_
          refine qq_iconst (v := 2) dL_answer_22 (by decide) ?_
          exact qq_iret dL_answer_23 rfl rfl ⟨2, n, S, rfl, hS, ho, lsx_r (sm_r hp), (Or.inr (Or.inr (Or.inr (Or.inr ⟨rfl, zg0, zg1, zg2, zf, rfl, rfl⟩))))⟩
set_option maxRecDepth 4000 in
theorem mt_L_below (hp : qq_H) (S : sX) (hS : cs_X S hp) (o : Nat) (n : Int64) (sv : Value) (ho : hp.2 o = .inr (3, [.long n, sv])) (hoE : 84 ≤ o) (p0 p1 p2 : Int32) : qq_Mt mL_below [.ref 80, .int p0, .int p1, .int p2, .ref o] hp 2 12 (fun v hp' => ∃ (k : Int32) (n' : Int64) (S' : sX), v = some (.int k) ∧ cs_X S' hp' ∧ hp'.2 o = .inr (3, [.long n', sv]) ∧ ls_X o hp hp' ∧ ((k = 0 ∧ (¬ p0 < 0 ∧ ¬ 3 < p0) ∧ (¬ p2 < -62 ∧ ¬ 90 < p2) ∧ S' = S ∧ n' = (r_X5_below p0 p1 p2 S).toInt64) ∨ (k = 1 ∧ (p0 < 0 ∨ 3 < p0) ∧ S' = S ∧ n' = n) ∨ (k = 1 ∧ (¬ p0 < 0 ∧ ¬ 3 < p0) ∧ (p2 < -62 ∨ 90 < p2) ∧ S' = S ∧ n' = n))) (fun _ _ => False) := by
  refine qq_met pn_L (Nat.le_of_ble_eq_true rfl) (Nat.le_of_ble_eq_true rfl) kc_L_below ?_
  show qq_Go _ hp 2 12 0 [(0, .ref 80), (1, .int p0), (2, .int p1), (3, .int p2), (4, .ref o)] [] _ _
  refine qq_aload dL_below_0 4 rfl ?_
  refine qq_aload_n dL_below_2 rfl 0 rfl ?_
  refine qq_iload_n dL_below_3 rfl 1 rfl ?_
  refine qq_iload_n dL_below_4 rfl 2 rfl ?_
  refine qq_iload_n dL_below_5 rfl 3 rfl ?_
  refine qq_callV (bc := 0) (bs := 0) (mc := 2) (ms := 12) (o := 80) (ci := 2) (N := 6) (T := TX5) (as := [.int p0, .int p1, .int p2]) (rest := [.ref o]) dL_below_6 hS.2.2.1 (by decide) rfl (mt_X5_below hp S hS p0 p1 p2) rfl kl_L_138 kn_X5_below ke_X5_below ki_X5 kc_X5_below kd_X5_below rfl (by decide) (by decide) (Nat.le_of_ble_eq_true rfl) (fun v hp1 hv _ _ => ?_) (fun E hp1 zx _ _ => ?_)
  · obtain ⟨rfl, rfl, zg0, zg1⟩ := hv
    have hS1 := hS
    have sM1 := sm_r hp
    refine qq_i2l dL_below_9 ?_
    have ho1 : hp.2 o = .inr (3, [.long n, sv]) := (sM1.2 o (Or.inr hoE)).trans ho
    refine qq_putN (C := RX6) (host := "QuarterpowersLaw") (T := TX6) (N := 2) (ty := .long) dL_below_10 ho1 (show 80 ≤ o by omega) rfl 0 (by decide) (Nat.le_of_ble_eq_true rfl) ku_X6 (by decide +kernel) tyX6 tyX6_ok nmX6 rfl (by decide +kernel) (fun _ => rfl) (fun _ => rfl) ?_
    refine qq_goto (tgt := 20) dL_below_13 (by decide) ?_
    refine qq_iconst (v := 0) dL_below_20 (by decide) ?_
    exact qq_iret dL_below_21 rfl rfl ⟨0, (r_X5_below p0 p1 p2 S).toInt64, S, rfl, cs_up hS1 hoE, up_p, lsx_p sM1, Or.inl ⟨rfl, zg0, zg1, rfl, rfl⟩⟩
  · obtain ⟨rfl, zx⟩ := zx
    rcases zx with zx | zx
    · obtain ⟨rfl, zf⟩ := zx
      refine qq_catch (name := "java/lang/IllegalArgumentException") (n := 16) (loc' := [(0, .ref 80), (1, .int p0), (2, .int p1), (3, .int p2), (4, .ref o)]) [] (0, 13, 16, 21) [] rfl (fun z hz => nomatch hz) (fun z hz => by obtain rfl := List.mem_singleton.mp hz; exact ⟨rfl, by decide, kl_L_21, rfl⟩) rfl rfl (by decide +kernel) (i := 5) (ln := 2) [0, 1, 2, 3, 4] (Or.inr ⟨dL_below_16, rfl⟩) (Nat.le_of_ble_eq_true rfl) rfl ?_
      refine qq_iconst (v := 1) dL_below_18 (by decide) ?_
      exact qq_iret dL_below_19 rfl rfl ⟨1, n, S, rfl, hS, ho, lsx_r (sm_r hp), (Or.inr (Or.inl ⟨rfl, zf, rfl, rfl⟩))⟩
    · obtain ⟨rfl, zg0, zf⟩ := zx
      refine qq_catch (name := "java/lang/IllegalArgumentException") (n := 16) (loc' := [(0, .ref 80), (1, .int p0), (2, .int p1), (3, .int p2), (4, .ref o)]) [] (0, 13, 16, 21) [] rfl (fun z hz => nomatch hz) (fun z hz => by obtain rfl := List.mem_singleton.mp hz; exact ⟨rfl, by decide, kl_L_21, rfl⟩) rfl rfl (by decide +kernel) (i := 5) (ln := 2) [0, 1, 2, 3, 4] (Or.inr ⟨dL_below_16, rfl⟩) (Nat.le_of_ble_eq_true rfl) rfl ?_
      refine qq_iconst (v := 1) dL_below_18 (by decide) ?_
      exact qq_iret dL_below_19 rfl rfl ⟨1, n, S, rfl, hS, ho, lsx_r (sm_r hp), (Or.inr (Or.inr ⟨rfl, zg0, zf, rfl, rfl⟩))⟩
set_option maxRecDepth 4000 in
theorem mt_L_rises (hp : qq_H) (S : sX) (hS : cs_X S hp) (o : Nat) (n : Int64) (sv : Value) (ho : hp.2 o = .inr (3, [.long n, sv])) (hoE : 84 ≤ o) (p0 p1 p2 : Int32) : qq_Mt mL_rises [.ref 80, .int p0, .int p1, .int p2, .ref o] hp 3 18 (fun v hp' => ∃ (k : Int32) (n' : Int64) (S' : sX), v = some (.int k) ∧ cs_X S' hp' ∧ hp'.2 o = .inr (3, [.long n', sv]) ∧ ls_X o hp hp' ∧ ((k = 0 ∧ (¬ p0 < 0 ∧ ¬ 3 < p0) ∧ (¬ p1 < (f_X4_firstQ p0) ∧ ¬ (f_X4_lastQ p0) < p1) ∧ (¬ p2 < p1 ∧ ¬ (f_X4_lastQ p0) < p2) ∧ S' = S ∧ n' = if (r_X5_rises p0 p1 p2 S) = 0 then 0 else 1) ∨ (k = 1 ∧ (p0 < 0 ∨ 3 < p0) ∧ S' = S ∧ n' = n) ∨ (k = 1 ∧ (¬ p0 < 0 ∧ ¬ 3 < p0) ∧ (p1 < (f_X4_firstQ p0) ∨ (f_X4_lastQ p0) < p1) ∧ S' = S ∧ n' = n) ∨ (k = 1 ∧ (¬ p0 < 0 ∧ ¬ 3 < p0) ∧ (¬ p1 < (f_X4_firstQ p0) ∧ ¬ (f_X4_lastQ p0) < p1) ∧ (p2 < p1 ∨ (f_X4_lastQ p0) < p2) ∧ S' = S ∧ n' = n))) (fun _ _ => False) := by
  refine qq_met pn_L (Nat.le_of_ble_eq_true rfl) (Nat.le_of_ble_eq_true rfl) kc_L_rises ?_
  show qq_Go _ hp 3 18 0 [(0, .ref 80), (1, .int p0), (2, .int p1), (3, .int p2), (4, .ref o)] [] _ _
  refine qq_aload dL_rises_0 4 rfl ?_
  refine qq_aload_n dL_rises_2 rfl 0 rfl ?_
  refine qq_iload_n dL_rises_3 rfl 1 rfl ?_
  refine qq_iload_n dL_rises_4 rfl 2 rfl ?_
  refine qq_iload_n dL_rises_5 rfl 3 rfl ?_
  refine qq_callV (bc := 0) (bs := 0) (mc := 3) (ms := 18) (o := 80) (ci := 2) (N := 6) (T := TX5) (as := [.int p0, .int p1, .int p2]) (rest := [.ref o]) dL_rises_6 hS.2.2.1 (by decide) rfl (mt_X5_rises hp S hS p0 p1 p2) rfl kl_L_141 kn_X5_rises ke_X5_rises ki_X5 kc_X5_rises kd_X5_rises rfl (by decide) (by decide) (Nat.le_of_ble_eq_true rfl) (fun v hp1 hv _ _ => ?_) (fun E hp1 zx _ _ => ?_)
  · obtain ⟨rfl, rfl, zg0, zg1, zg2⟩ := hv
    have hS1 := hS
    have sM1 := sm_r hp
    refine qq_if_eq (tgt := 16) dL_rises_9 (by decide) (fun zc => ?_) (fun zc => ?_)
    · refine qq_lconst (v := 0) dL_rises_16 (by decide) ?_
      have ho1 : hp.2 o = .inr (3, [.long n, sv]) := (sM1.2 o (Or.inr hoE)).trans ho
      refine qq_putN (C := RX6) (host := "QuarterpowersLaw") (T := TX6) (N := 2) (ty := .long) dL_rises_17 ho1 (show 80 ≤ o by omega) rfl 0 (by decide) (Nat.le_of_ble_eq_true rfl) ku_X6 (by decide +kernel) tyX6 tyX6_ok nmX6 rfl (by decide +kernel) (fun _ => rfl) (fun _ => rfl) ?_
      refine qq_goto (tgt := 27) dL_rises_20 (by decide) ?_
      refine qq_iconst (v := 0) dL_rises_27 (by decide) ?_
      exact qq_iret dL_rises_28 rfl rfl ⟨0, 0, S, rfl, cs_up hS1 hoE, up_p, lsx_p sM1, Or.inl ⟨rfl, zg0, zg1, zg2, rfl, by rw [if_pos zc]⟩⟩
    · refine qq_lconst (v := 1) dL_rises_12 (by decide) ?_
      refine qq_goto (tgt := 17) dL_rises_13 (by decide) ?_
      have ho1 : hp.2 o = .inr (3, [.long n, sv]) := (sM1.2 o (Or.inr hoE)).trans ho
      refine qq_putN (C := RX6) (host := "QuarterpowersLaw") (T := TX6) (N := 2) (ty := .long) dL_rises_17 ho1 (show 80 ≤ o by omega) rfl 0 (by decide) (Nat.le_of_ble_eq_true rfl) ku_X6 (by decide +kernel) tyX6 tyX6_ok nmX6 rfl (by decide +kernel) (fun _ => rfl) (fun _ => rfl) ?_
      refine qq_goto (tgt := 27) dL_rises_20 (by decide) ?_
      refine qq_iconst (v := 0) dL_rises_27 (by decide) ?_
      exact qq_iret dL_rises_28 rfl rfl ⟨0, 1, S, rfl, cs_up hS1 hoE, up_p, lsx_p sM1, Or.inl ⟨rfl, zg0, zg1, zg2, rfl, by rw [if_neg zc]⟩⟩
  · obtain ⟨rfl, zx⟩ := zx
    rcases zx with zx | zx
    · obtain ⟨rfl, zf⟩ := zx
      refine qq_catch (name := "java/lang/IllegalArgumentException") (n := 23) (loc' := [(0, .ref 80), (1, .int p0), (2, .int p1), (3, .int p2), (4, .ref o)]) [] (0, 20, 23, 21) [] rfl (fun z hz => nomatch hz) (fun z hz => by obtain rfl := List.mem_singleton.mp hz; exact ⟨rfl, by decide, kl_L_21, rfl⟩) rfl rfl (by decide +kernel) (i := 5) (ln := 2) [0, 1, 2, 3, 4] (Or.inr ⟨dL_rises_23, rfl⟩) (Nat.le_of_ble_eq_true rfl) rfl ?_
      refine qq_iconst (v := 1) dL_rises_25 (by decide) ?_
      exact qq_iret dL_rises_26 rfl rfl ⟨1, n, S, rfl, hS, ho, lsx_r (sm_r hp), (Or.inr (Or.inl ⟨rfl, zf, rfl, rfl⟩))⟩
    · rcases zx with zx | zx
      · obtain ⟨rfl, zg0, zf⟩ := zx
        refine qq_catch (name := "java/lang/IllegalArgumentException") (n := 23) (loc' := [(0, .ref 80), (1, .int p0), (2, .int p1), (3, .int p2), (4, .ref o)]) [] (0, 20, 23, 21) [] rfl (fun z hz => nomatch hz) (fun z hz => by obtain rfl := List.mem_singleton.mp hz; exact ⟨rfl, by decide, kl_L_21, rfl⟩) rfl rfl (by decide +kernel) (i := 5) (ln := 2) [0, 1, 2, 3, 4] (Or.inr ⟨dL_rises_23, rfl⟩) (Nat.le_of_ble_eq_true rfl) rfl ?_
        refine qq_iconst (v := 1) dL_rises_25 (by decide) ?_
        exact qq_iret dL_rises_26 rfl rfl ⟨1, n, S, rfl, hS, ho, lsx_r (sm_r hp), (Or.inr (Or.inr (Or.inl ⟨rfl, zg0, zf, rfl, rfl⟩)))⟩
      · obtain ⟨rfl, zg0, zg1, zf⟩ := zx
        refine qq_catch (name := "java/lang/IllegalArgumentException") (n := 23) (loc' := [(0, .ref 80), (1, .int p0), (2, .int p1), (3, .int p2), (4, .ref o)]) [] (0, 20, 23, 21) [] rfl (fun z hz => nomatch hz) (fun z hz => by obtain rfl := List.mem_singleton.mp hz; exact ⟨rfl, by decide, kl_L_21, rfl⟩) rfl rfl (by decide +kernel) (i := 5) (ln := 2) [0, 1, 2, 3, 4] (Or.inr ⟨dL_rises_23, rfl⟩) (Nat.le_of_ble_eq_true rfl) rfl ?_
        refine qq_iconst (v := 1) dL_rises_25 (by decide) ?_
        exact qq_iret dL_rises_26 rfl rfl ⟨1, n, S, rfl, hS, ho, lsx_r (sm_r hp), (Or.inr (Or.inr (Or.inr ⟨rfl, zg0, zg1, zf, rfl, rfl⟩)))⟩
set_option maxRecDepth 4000 in
theorem mt_L_between (hp : qq_H) (S : sX) (hS : cs_X S hp) (o : Nat) (n : Int64) (sv : Value) (ho : hp.2 o = .inr (3, [.long n, sv])) (hoE : 84 ≤ o) (p0 : Int32) : qq_Mt mL_between [.ref 80, .int p0, .ref o] hp 1 6 (fun v hp' => ∃ (k : Int32) (n' : Int64) (S' : sX), v = some (.int k) ∧ cs_X S' hp' ∧ hp'.2 o = .inr (3, [.long n', sv]) ∧ ls_X o hp hp' ∧ ((k = 0 ∧ (¬ p0 < (f_X4_firstQ 2) ∧ ¬ (f_X4_lastQ 2) < p0) ∧ S' = S ∧ n' = if (r_X5_between p0 S) = 0 then 0 else 1) ∨ (k = 1 ∧ (p0 < (f_X4_firstQ 2) ∨ (f_X4_lastQ 2) < p0) ∧ S' = S ∧ n' = n))) (fun _ _ => False) := by
  refine qq_met pn_L (Nat.le_of_ble_eq_true rfl) (Nat.le_of_ble_eq_true rfl) kc_L_between ?_
  show qq_Go _ hp 1 6 0 [(0, .ref 80), (1, .int p0), (2, .ref o)] [] _ _
  refine qq_aload_n dL_between_0 rfl 2 rfl ?_
  refine qq_aload_n dL_between_1 rfl 0 rfl ?_
  refine qq_iload_n dL_between_2 rfl 1 rfl ?_
  refine qq_callV (bc := 0) (bs := 0) (mc := 1) (ms := 6) (o := 80) (ci := 2) (N := 6) (T := TX5) (as := [.int p0]) (rest := [.ref o]) dL_between_3 hS.2.2.1 (by decide) rfl (mt_X5_between hp S hS p0) rfl kl_L_145 kn_X5_between ke_X5_between ki_X5 kc_X5_between kd_X5_between rfl (by decide) (by decide) (Nat.le_of_ble_eq_true rfl) (fun v hp1 hv _ _ => ?_) (fun E hp1 zx _ _ => ?_)
  · obtain ⟨rfl, rfl, zg0⟩ := hv
    have hS1 := hS
    have sM1 := sm_r hp
    refine qq_if_eq (tgt := 13) dL_between_6 (by decide) (fun zc => ?_) (fun zc => ?_)
    · refine qq_lconst (v := 0) dL_between_13 (by decide) ?_
      have ho1 : hp.2 o = .inr (3, [.long n, sv]) := (sM1.2 o (Or.inr hoE)).trans ho
      refine qq_putN (C := RX6) (host := "QuarterpowersLaw") (T := TX6) (N := 2) (ty := .long) dL_between_14 ho1 (show 80 ≤ o by omega) rfl 0 (by decide) (Nat.le_of_ble_eq_true rfl) ku_X6 (by decide +kernel) tyX6 tyX6_ok nmX6 rfl (by decide +kernel) (fun _ => rfl) (fun _ => rfl) ?_
      refine qq_goto (tgt := 23) dL_between_17 (by decide) ?_
      refine qq_iconst (v := 0) dL_between_23 (by decide) ?_
      exact qq_iret dL_between_24 rfl rfl ⟨0, 0, S, rfl, cs_up hS1 hoE, up_p, lsx_p sM1, Or.inl ⟨rfl, zg0, rfl, by rw [if_pos zc]⟩⟩
    · refine qq_lconst (v := 1) dL_between_9 (by decide) ?_
      refine qq_goto (tgt := 14) dL_between_10 (by decide) ?_
      have ho1 : hp.2 o = .inr (3, [.long n, sv]) := (sM1.2 o (Or.inr hoE)).trans ho
      refine qq_putN (C := RX6) (host := "QuarterpowersLaw") (T := TX6) (N := 2) (ty := .long) dL_between_14 ho1 (show 80 ≤ o by omega) rfl 0 (by decide) (Nat.le_of_ble_eq_true rfl) ku_X6 (by decide +kernel) tyX6 tyX6_ok nmX6 rfl (by decide +kernel) (fun _ => rfl) (fun _ => rfl) ?_
      refine qq_goto (tgt := 23) dL_between_17 (by decide) ?_
      refine qq_iconst (v := 0) dL_between_23 (by decide) ?_
      exact qq_iret dL_between_24 rfl rfl ⟨0, 1, S, rfl, cs_up hS1 hoE, up_p, lsx_p sM1, Or.inl ⟨rfl, zg0, rfl, by rw [if_neg zc]⟩⟩
  · obtain ⟨rfl, zx⟩ := zx
    obtain ⟨rfl, zf⟩ := zx
    refine qq_catch (name := "java/lang/IllegalArgumentException") (n := 20) (loc' := [(0, .ref 80), (1, .int p0), (2, .ref o)]) [] (0, 17, 20, 21) [] rfl (fun z hz => nomatch hz) (fun z hz => by obtain rfl := List.mem_singleton.mp hz; exact ⟨rfl, by decide, kl_L_21, rfl⟩) rfl rfl (by decide +kernel) (i := 3) (ln := 1) [0, 1, 2] (Or.inl ⟨dL_between_20, by decide, rfl⟩) (Nat.le_of_ble_eq_true rfl) rfl ?_
    refine qq_iconst (v := 1) dL_between_21 (by decide) ?_
    exact qq_iret dL_between_22 rfl rfl ⟨1, n, S, rfl, hS, ho, lsx_r (sm_r hp), (Or.inr ⟨rfl, zf, rfl, rfl⟩)⟩
set_option maxRecDepth 4000 in
theorem mt_L_lies (hp : qq_H) (S : sX) (hS : cs_X S hp) (o : Nat) (n : Int64) (sv : Value) (ho : hp.2 o = .inr (3, [.long n, sv])) (hoE : 84 ≤ o) (p0 : Int32) : qq_Mt mL_lies [.ref 80, .int p0, .ref o] hp 1 6 (fun v hp' => ∃ (k : Int32) (n' : Int64) (S' : sX), v = some (.int k) ∧ cs_X S' hp' ∧ hp'.2 o = .inr (3, [.long n', sv]) ∧ ls_X o hp hp' ∧ ((k = 0 ∧ (¬ p0 < (f_X4_firstQ 3) ∧ ¬ (f_X4_lastQ 3) < p0) ∧ S' = S ∧ n' = if (r_X5_lies p0 S) = 0 then 0 else 1) ∨ (k = 1 ∧ (p0 < (f_X4_firstQ 3) ∨ (f_X4_lastQ 3) < p0) ∧ S' = S ∧ n' = n))) (fun _ _ => False) := by
  refine qq_met pn_L (Nat.le_of_ble_eq_true rfl) (Nat.le_of_ble_eq_true rfl) kc_L_lies ?_
  show qq_Go _ hp 1 6 0 [(0, .ref 80), (1, .int p0), (2, .ref o)] [] _ _
  refine qq_aload_n dL_lies_0 rfl 2 rfl ?_
  refine qq_aload_n dL_lies_1 rfl 0 rfl ?_
  refine qq_iload_n dL_lies_2 rfl 1 rfl ?_
  refine qq_callV (bc := 0) (bs := 0) (mc := 1) (ms := 6) (o := 80) (ci := 2) (N := 6) (T := TX5) (as := [.int p0]) (rest := [.ref o]) dL_lies_3 hS.2.2.1 (by decide) rfl (mt_X5_lies hp S hS p0) rfl kl_L_148 kn_X5_lies ke_X5_lies ki_X5 kc_X5_lies kd_X5_lies rfl (by decide) (by decide) (Nat.le_of_ble_eq_true rfl) (fun v hp1 hv _ _ => ?_) (fun E hp1 zx _ _ => ?_)
  · obtain ⟨rfl, rfl, zg0⟩ := hv
    have hS1 := hS
    have sM1 := sm_r hp
    refine qq_if_eq (tgt := 13) dL_lies_6 (by decide) (fun zc => ?_) (fun zc => ?_)
    · refine qq_lconst (v := 0) dL_lies_13 (by decide) ?_
      have ho1 : hp.2 o = .inr (3, [.long n, sv]) := (sM1.2 o (Or.inr hoE)).trans ho
      refine qq_putN (C := RX6) (host := "QuarterpowersLaw") (T := TX6) (N := 2) (ty := .long) dL_lies_14 ho1 (show 80 ≤ o by omega) rfl 0 (by decide) (Nat.le_of_ble_eq_true rfl) ku_X6 (by decide +kernel) tyX6 tyX6_ok nmX6 rfl (by decide +kernel) (fun _ => rfl) (fun _ => rfl) ?_
      refine qq_goto (tgt := 23) dL_lies_17 (by decide) ?_
      refine qq_iconst (v := 0) dL_lies_23 (by decide) ?_
      exact qq_iret dL_lies_24 rfl rfl ⟨0, 0, S, rfl, cs_up hS1 hoE, up_p, lsx_p sM1, Or.inl ⟨rfl, zg0, rfl, by rw [if_pos zc]⟩⟩
    · refine qq_lconst (v := 1) dL_lies_9 (by decide) ?_
      refine qq_goto (tgt := 14) dL_lies_10 (by decide) ?_
      have ho1 : hp.2 o = .inr (3, [.long n, sv]) := (sM1.2 o (Or.inr hoE)).trans ho
      refine qq_putN (C := RX6) (host := "QuarterpowersLaw") (T := TX6) (N := 2) (ty := .long) dL_lies_14 ho1 (show 80 ≤ o by omega) rfl 0 (by decide) (Nat.le_of_ble_eq_true rfl) ku_X6 (by decide +kernel) tyX6 tyX6_ok nmX6 rfl (by decide +kernel) (fun _ => rfl) (fun _ => rfl) ?_
      refine qq_goto (tgt := 23) dL_lies_17 (by decide) ?_
      refine qq_iconst (v := 0) dL_lies_23 (by decide) ?_
      exact qq_iret dL_lies_24 rfl rfl ⟨0, 1, S, rfl, cs_up hS1 hoE, up_p, lsx_p sM1, Or.inl ⟨rfl, zg0, rfl, by rw [if_neg zc]⟩⟩
  · obtain ⟨rfl, zx⟩ := zx
    obtain ⟨rfl, zf⟩ := zx
    refine qq_catch (name := "java/lang/IllegalArgumentException") (n := 20) (loc' := [(0, .ref 80), (1, .int p0), (2, .ref o)]) [] (0, 17, 20, 21) [] rfl (fun z hz => nomatch hz) (fun z hz => by obtain rfl := List.mem_singleton.mp hz; exact ⟨rfl, by decide, kl_L_21, rfl⟩) rfl rfl (by decide +kernel) (i := 3) (ln := 1) [0, 1, 2] (Or.inl ⟨dL_lies_20, by decide, rfl⟩) (Nat.le_of_ble_eq_true rfl) rfl ?_
    refine qq_iconst (v := 1) dL_lies_21 (by decide) ?_
    exact qq_iret dL_lies_22 rfl rfl ⟨1, n, S, rfl, hS, ho, lsx_r (sm_r hp), (Or.inr ⟨rfl, zf, rfl, rfl⟩)⟩
set_option maxRecDepth 4000 in
theorem mt_L_undone (hp : qq_H) (S : sX) (hS : cs_X S hp) (o : Nat) (n : Int64) (sv : Value) (ho : hp.2 o = .inr (3, [.long n, sv])) (hoE : 84 ≤ o) (p0 : Int32) : qq_Mt mL_undone [.ref 80, .int p0, .ref o] hp 1 6 (fun v hp' => ∃ (k : Int32) (n' : Int64) (S' : sX), v = some (.int k) ∧ cs_X S' hp' ∧ hp'.2 o = .inr (3, [.long n', sv]) ∧ ls_X o hp hp' ∧ ((k = 0 ∧ (¬ p0 < -4 ∧ ¬ 144 < p0) ∧ S' = S ∧ n' = if (r_X5_undone p0 S) = 0 then 0 else 1) ∨ (k = 1 ∧ (p0 < -4 ∨ 144 < p0) ∧ S' = S ∧ n' = n))) (fun _ _ => False) := by
  refine qq_met pn_L (Nat.le_of_ble_eq_true rfl) (Nat.le_of_ble_eq_true rfl) kc_L_undone ?_
  show qq_Go _ hp 1 6 0 [(0, .ref 80), (1, .int p0), (2, .ref o)] [] _ _
  refine qq_aload_n dL_undone_0 rfl 2 rfl ?_
  refine qq_aload_n dL_undone_1 rfl 0 rfl ?_
  refine qq_iload_n dL_undone_2 rfl 1 rfl ?_
  refine qq_callV (bc := 0) (bs := 0) (mc := 1) (ms := 6) (o := 80) (ci := 2) (N := 6) (T := TX5) (as := [.int p0]) (rest := [.ref o]) dL_undone_3 hS.2.2.1 (by decide) rfl (mt_X5_undone hp S hS p0) rfl kl_L_151 kn_X5_undone ke_X5_undone ki_X5 kc_X5_undone kd_X5_undone rfl (by decide) (by decide) (Nat.le_of_ble_eq_true rfl) (fun v hp1 hv _ _ => ?_) (fun E hp1 zx _ _ => ?_)
  · obtain ⟨rfl, rfl, zg0⟩ := hv
    have hS1 := hS
    have sM1 := sm_r hp
    refine qq_if_eq (tgt := 13) dL_undone_6 (by decide) (fun zc => ?_) (fun zc => ?_)
    · refine qq_lconst (v := 0) dL_undone_13 (by decide) ?_
      have ho1 : hp.2 o = .inr (3, [.long n, sv]) := (sM1.2 o (Or.inr hoE)).trans ho
      refine qq_putN (C := RX6) (host := "QuarterpowersLaw") (T := TX6) (N := 2) (ty := .long) dL_undone_14 ho1 (show 80 ≤ o by omega) rfl 0 (by decide) (Nat.le_of_ble_eq_true rfl) ku_X6 (by decide +kernel) tyX6 tyX6_ok nmX6 rfl (by decide +kernel) (fun _ => rfl) (fun _ => rfl) ?_
      refine qq_goto (tgt := 23) dL_undone_17 (by decide) ?_
      refine qq_iconst (v := 0) dL_undone_23 (by decide) ?_
      exact qq_iret dL_undone_24 rfl rfl ⟨0, 0, S, rfl, cs_up hS1 hoE, up_p, lsx_p sM1, Or.inl ⟨rfl, zg0, rfl, by rw [if_pos zc]⟩⟩
    · refine qq_lconst (v := 1) dL_undone_9 (by decide) ?_
      refine qq_goto (tgt := 14) dL_undone_10 (by decide) ?_
      have ho1 : hp.2 o = .inr (3, [.long n, sv]) := (sM1.2 o (Or.inr hoE)).trans ho
      refine qq_putN (C := RX6) (host := "QuarterpowersLaw") (T := TX6) (N := 2) (ty := .long) dL_undone_14 ho1 (show 80 ≤ o by omega) rfl 0 (by decide) (Nat.le_of_ble_eq_true rfl) ku_X6 (by decide +kernel) tyX6 tyX6_ok nmX6 rfl (by decide +kernel) (fun _ => rfl) (fun _ => rfl) ?_
      refine qq_goto (tgt := 23) dL_undone_17 (by decide) ?_
      refine qq_iconst (v := 0) dL_undone_23 (by decide) ?_
      exact qq_iret dL_undone_24 rfl rfl ⟨0, 1, S, rfl, cs_up hS1 hoE, up_p, lsx_p sM1, Or.inl ⟨rfl, zg0, rfl, by rw [if_neg zc]⟩⟩
  · obtain ⟨rfl, zx⟩ := zx
    obtain ⟨rfl, zf⟩ := zx
    refine qq_catch (name := "java/lang/IllegalArgumentException") (n := 20) (loc' := [(0, .ref 80), (1, .int p0), (2, .ref o)]) [] (0, 17, 20, 21) [] rfl (fun z hz => nomatch hz) (fun z hz => by obtain rfl := List.mem_singleton.mp hz; exact ⟨rfl, by decide, kl_L_21, rfl⟩) rfl rfl (by decide +kernel) (i := 3) (ln := 1) [0, 1, 2] (Or.inl ⟨dL_undone_20, by decide, rfl⟩) (Nat.le_of_ble_eq_true rfl) rfl ?_
    refine qq_iconst (v := 1) dL_undone_21 (by decide) ?_
    exact qq_iret dL_undone_22 rfl rfl ⟨1, n, S, rfl, hS, ho, lsx_r (sm_r hp), (Or.inr ⟨rfl, zf, rfl, rfl⟩)⟩
set_option maxRecDepth 4000 in
theorem mt_L_comesBack (hp : qq_H) (S : sX) (hS : cs_X S hp) (o : Nat) (n : Int64) (sv : Value) (ho : hp.2 o = .inr (3, [.long n, sv])) (hoE : 84 ≤ o) (p0 : Int32) : qq_Mt mL_comesBack [.ref 80, .int p0, .ref o] hp 1 6 (fun v hp' => ∃ (k : Int32) (n' : Int64) (S' : sX), v = some (.int k) ∧ cs_X S' hp' ∧ hp'.2 o = .inr (3, [.long n', sv]) ∧ ls_X o hp hp' ∧ ((k = 0 ∧ (¬ p0 < -32 ∧ ¬ -5 < p0) ∧ S' = S ∧ n' = if (r_X5_comesBack p0 S) = 0 then 0 else 1) ∨ (k = 1 ∧ (p0 < -32 ∨ -5 < p0) ∧ S' = S ∧ n' = n))) (fun _ _ => False) := by
  refine qq_met pn_L (Nat.le_of_ble_eq_true rfl) (Nat.le_of_ble_eq_true rfl) kc_L_comesBack ?_
  show qq_Go _ hp 1 6 0 [(0, .ref 80), (1, .int p0), (2, .ref o)] [] _ _
  refine qq_aload_n dL_comesBack_0 rfl 2 rfl ?_
  refine qq_aload_n dL_comesBack_1 rfl 0 rfl ?_
  refine qq_iload_n dL_comesBack_2 rfl 1 rfl ?_
  refine qq_callV (bc := 0) (bs := 0) (mc := 1) (ms := 6) (o := 80) (ci := 2) (N := 6) (T := TX5) (as := [.int p0]) (rest := [.ref o]) dL_comesBack_3 hS.2.2.1 (by decide) rfl (mt_X5_comesBack hp S hS p0) rfl kl_L_154 kn_X5_comesBack ke_X5_comesBack ki_X5 kc_X5_comesBack kd_X5_comesBack rfl (by decide) (by decide) (Nat.le_of_ble_eq_true rfl) (fun v hp1 hv _ _ => ?_) (fun E hp1 zx _ _ => ?_)
  · obtain ⟨rfl, rfl, zg0⟩ := hv
    have hS1 := hS
    have sM1 := sm_r hp
    refine qq_if_eq (tgt := 13) dL_comesBack_6 (by decide) (fun zc => ?_) (fun zc => ?_)
    · refine qq_lconst (v := 0) dL_comesBack_13 (by decide) ?_
      have ho1 : hp.2 o = .inr (3, [.long n, sv]) := (sM1.2 o (Or.inr hoE)).trans ho
      refine qq_putN (C := RX6) (host := "QuarterpowersLaw") (T := TX6) (N := 2) (ty := .long) dL_comesBack_14 ho1 (show 80 ≤ o by omega) rfl 0 (by decide) (Nat.le_of_ble_eq_true rfl) ku_X6 (by decide +kernel) tyX6 tyX6_ok nmX6 rfl (by decide +kernel) (fun _ => rfl) (fun _ => rfl) ?_
      refine qq_goto (tgt := 23) dL_comesBack_17 (by decide) ?_
      refine qq_iconst (v := 0) dL_comesBack_23 (by decide) ?_
      exact qq_iret dL_comesBack_24 rfl rfl ⟨0, 0, S, rfl, cs_up hS1 hoE, up_p, lsx_p sM1, Or.inl ⟨rfl, zg0, rfl, by rw [if_pos zc]⟩⟩
    · refine qq_lconst (v := 1) dL_comesBack_9 (by decide) ?_
      refine qq_goto (tgt := 14) dL_comesBack_10 (by decide) ?_
      have ho1 : hp.2 o = .inr (3, [.long n, sv]) := (sM1.2 o (Or.inr hoE)).trans ho
      refine qq_putN (C := RX6) (host := "QuarterpowersLaw") (T := TX6) (N := 2) (ty := .long) dL_comesBack_14 ho1 (show 80 ≤ o by omega) rfl 0 (by decide) (Nat.le_of_ble_eq_true rfl) ku_X6 (by decide +kernel) tyX6 tyX6_ok nmX6 rfl (by decide +kernel) (fun _ => rfl) (fun _ => rfl) ?_
      refine qq_goto (tgt := 23) dL_comesBack_17 (by decide) ?_
      refine qq_iconst (v := 0) dL_comesBack_23 (by decide) ?_
      exact qq_iret dL_comesBack_24 rfl rfl ⟨0, 1, S, rfl, cs_up hS1 hoE, up_p, lsx_p sM1, Or.inl ⟨rfl, zg0, rfl, by rw [if_neg zc]⟩⟩
  · obtain ⟨rfl, zx⟩ := zx
    obtain ⟨rfl, zf⟩ := zx
    refine qq_catch (name := "java/lang/IllegalArgumentException") (n := 20) (loc' := [(0, .ref 80), (1, .int p0), (2, .ref o)]) [] (0, 17, 20, 21) [] rfl (fun z hz => nomatch hz) (fun z hz => by obtain rfl := List.mem_singleton.mp hz; exact ⟨rfl, by decide, kl_L_21, rfl⟩) rfl rfl (by decide +kernel) (i := 3) (ln := 1) [0, 1, 2] (Or.inl ⟨dL_comesBack_20, by decide, rfl⟩) (Nat.le_of_ble_eq_true rfl) rfl ?_
    refine qq_iconst (v := 1) dL_comesBack_21 (by decide) ?_
    exact qq_iret dL_comesBack_22 rfl rfl ⟨1, n, S, rfl, hS, ho, lsx_r (sm_r hp), (Or.inr ⟨rfl, zf, rfl, rfl⟩)⟩
set_option maxRecDepth 4000 in
theorem mt_L_comesForth (hp : qq_H) (S : sX) (hS : cs_X S hp) (o : Nat) (n : Int64) (sv : Value) (ho : hp.2 o = .inr (3, [.long n, sv])) (hoE : 84 ≤ o) (p0 : Int32) : qq_Mt mL_comesForth [.ref 80, .int p0, .ref o] hp 1 6 (fun v hp' => ∃ (k : Int32) (n' : Int64) (S' : sX), v = some (.int k) ∧ cs_X S' hp' ∧ hp'.2 o = .inr (3, [.long n', sv]) ∧ ls_X o hp hp' ∧ ((k = 0 ∧ (¬ p0 < (f_X4_firstQ 3) ∧ ¬ (f_X4_lastQ 3) < p0) ∧ S' = S ∧ n' = if (r_X5_comesForth p0 S) = 0 then 0 else 1) ∨ (k = 1 ∧ (p0 < (f_X4_firstQ 3) ∨ (f_X4_lastQ 3) < p0) ∧ S' = S ∧ n' = n))) (fun _ _ => False) := by
  refine qq_met pn_L (Nat.le_of_ble_eq_true rfl) (Nat.le_of_ble_eq_true rfl) kc_L_comesForth ?_
  show qq_Go _ hp 1 6 0 [(0, .ref 80), (1, .int p0), (2, .ref o)] [] _ _
  refine qq_aload_n dL_comesForth_0 rfl 2 rfl ?_
  refine qq_aload_n dL_comesForth_1 rfl 0 rfl ?_
  refine qq_iload_n dL_comesForth_2 rfl 1 rfl ?_
  refine qq_callV (bc := 0) (bs := 0) (mc := 1) (ms := 6) (o := 80) (ci := 2) (N := 6) (T := TX5) (as := [.int p0]) (rest := [.ref o]) dL_comesForth_3 hS.2.2.1 (by decide) rfl (mt_X5_comesForth hp S hS p0) rfl kl_L_157 kn_X5_comesForth ke_X5_comesForth ki_X5 kc_X5_comesForth kd_X5_comesForth rfl (by decide) (by decide) (Nat.le_of_ble_eq_true rfl) (fun v hp1 hv _ _ => ?_) (fun E hp1 zx _ _ => ?_)
  · obtain ⟨rfl, rfl, zg0⟩ := hv
    have hS1 := hS
    have sM1 := sm_r hp
    refine qq_if_eq (tgt := 13) dL_comesForth_6 (by decide) (fun zc => ?_) (fun zc => ?_)
    · refine qq_lconst (v := 0) dL_comesForth_13 (by decide) ?_
      have ho1 : hp.2 o = .inr (3, [.long n, sv]) := (sM1.2 o (Or.inr hoE)).trans ho
      refine qq_putN (C := RX6) (host := "QuarterpowersLaw") (T := TX6) (N := 2) (ty := .long) dL_comesForth_14 ho1 (show 80 ≤ o by omega) rfl 0 (by decide) (Nat.le_of_ble_eq_true rfl) ku_X6 (by decide +kernel) tyX6 tyX6_ok nmX6 rfl (by decide +kernel) (fun _ => rfl) (fun _ => rfl) ?_
      refine qq_goto (tgt := 23) dL_comesForth_17 (by decide) ?_
      refine qq_iconst (v := 0) dL_comesForth_23 (by decide) ?_
      exact qq_iret dL_comesForth_24 rfl rfl ⟨0, 0, S, rfl, cs_up hS1 hoE, up_p, lsx_p sM1, Or.inl ⟨rfl, zg0, rfl, by rw [if_pos zc]⟩⟩
    · refine qq_lconst (v := 1) dL_comesForth_9 (by decide) ?_
      refine qq_goto (tgt := 14) dL_comesForth_10 (by decide) ?_
      have ho1 : hp.2 o = .inr (3, [.long n, sv]) := (sM1.2 o (Or.inr hoE)).trans ho
      refine qq_putN (C := RX6) (host := "QuarterpowersLaw") (T := TX6) (N := 2) (ty := .long) dL_comesForth_14 ho1 (show 80 ≤ o by omega) rfl 0 (by decide) (Nat.le_of_ble_eq_true rfl) ku_X6 (by decide +kernel) tyX6 tyX6_ok nmX6 rfl (by decide +kernel) (fun _ => rfl) (fun _ => rfl) ?_
      refine qq_goto (tgt := 23) dL_comesForth_17 (by decide) ?_
      refine qq_iconst (v := 0) dL_comesForth_23 (by decide) ?_
      exact qq_iret dL_comesForth_24 rfl rfl ⟨0, 1, S, rfl, cs_up hS1 hoE, up_p, lsx_p sM1, Or.inl ⟨rfl, zg0, rfl, by rw [if_neg zc]⟩⟩
  · obtain ⟨rfl, zx⟩ := zx
    obtain ⟨rfl, zf⟩ := zx
    refine qq_catch (name := "java/lang/IllegalArgumentException") (n := 20) (loc' := [(0, .ref 80), (1, .int p0), (2, .ref o)]) [] (0, 17, 20, 21) [] rfl (fun z hz => nomatch hz) (fun z hz => by obtain rfl := List.mem_singleton.mp hz; exact ⟨rfl, by decide, kl_L_21, rfl⟩) rfl rfl (by decide +kernel) (i := 3) (ln := 1) [0, 1, 2] (Or.inl ⟨dL_comesForth_20, by decide, rfl⟩) (Nat.le_of_ble_eq_true rfl) rfl ?_
    refine qq_iconst (v := 1) dL_comesForth_21 (by decide) ?_
    exact qq_iret dL_comesForth_22 rfl rfl ⟨1, n, S, rfl, hS, ho, lsx_r (sm_r hp), (Or.inr ⟨rfl, zf, rfl, rfl⟩)⟩
set_option maxRecDepth 4000 in
theorem mt_L_opposite (hp : qq_H) (S : sX) (hS : cs_X S hp) (o : Nat) (n : Int64) (sv : Value) (ho : hp.2 o = .inr (3, [.long n, sv])) (hoE : 84 ≤ o) (p0 : Int32) : qq_Mt mL_opposite [.ref 80, .int p0, .ref o] hp 1 6 (fun v hp' => ∃ (k : Int32) (n' : Int64) (S' : sX), v = some (.int k) ∧ cs_X S' hp' ∧ hp'.2 o = .inr (3, [.long n', sv]) ∧ ls_X o hp hp' ∧ ((k = 0 ∧ (¬ p0 < -160 ∧ ¬ 160 < p0) ∧ S' = S ∧ n' = if (r_X5_opposite p0 S) = 0 then 0 else 1) ∨ (k = 1 ∧ (p0 < -160 ∨ 160 < p0) ∧ S' = S ∧ n' = n))) (fun _ _ => False) := by
  refine qq_met pn_L (Nat.le_of_ble_eq_true rfl) (Nat.le_of_ble_eq_true rfl) kc_L_opposite ?_
  show qq_Go _ hp 1 6 0 [(0, .ref 80), (1, .int p0), (2, .ref o)] [] _ _
  refine qq_aload_n dL_opposite_0 rfl 2 rfl ?_
  refine qq_aload_n dL_opposite_1 rfl 0 rfl ?_
  refine qq_iload_n dL_opposite_2 rfl 1 rfl ?_
  refine qq_callV (bc := 0) (bs := 0) (mc := 1) (ms := 6) (o := 80) (ci := 2) (N := 6) (T := TX5) (as := [.int p0]) (rest := [.ref o]) dL_opposite_3 hS.2.2.1 (by decide) rfl (mt_X5_opposite hp S hS p0) rfl kl_L_160 kn_X5_opposite ke_X5_opposite ki_X5 kc_X5_opposite kd_X5_opposite rfl (by decide) (by decide) (Nat.le_of_ble_eq_true rfl) (fun v hp1 hv _ _ => ?_) (fun E hp1 zx _ _ => ?_)
  · obtain ⟨rfl, rfl, zg0⟩ := hv
    have hS1 := hS
    have sM1 := sm_r hp
    refine qq_if_eq (tgt := 13) dL_opposite_6 (by decide) (fun zc => ?_) (fun zc => ?_)
    · refine qq_lconst (v := 0) dL_opposite_13 (by decide) ?_
      have ho1 : hp.2 o = .inr (3, [.long n, sv]) := (sM1.2 o (Or.inr hoE)).trans ho
      refine qq_putN (C := RX6) (host := "QuarterpowersLaw") (T := TX6) (N := 2) (ty := .long) dL_opposite_14 ho1 (show 80 ≤ o by omega) rfl 0 (by decide) (Nat.le_of_ble_eq_true rfl) ku_X6 (by decide +kernel) tyX6 tyX6_ok nmX6 rfl (by decide +kernel) (fun _ => rfl) (fun _ => rfl) ?_
      refine qq_goto (tgt := 23) dL_opposite_17 (by decide) ?_
      refine qq_iconst (v := 0) dL_opposite_23 (by decide) ?_
      exact qq_iret dL_opposite_24 rfl rfl ⟨0, 0, S, rfl, cs_up hS1 hoE, up_p, lsx_p sM1, Or.inl ⟨rfl, zg0, rfl, by rw [if_pos zc]⟩⟩
    · refine qq_lconst (v := 1) dL_opposite_9 (by decide) ?_
      refine qq_goto (tgt := 14) dL_opposite_10 (by decide) ?_
      have ho1 : hp.2 o = .inr (3, [.long n, sv]) := (sM1.2 o (Or.inr hoE)).trans ho
      refine qq_putN (C := RX6) (host := "QuarterpowersLaw") (T := TX6) (N := 2) (ty := .long) dL_opposite_14 ho1 (show 80 ≤ o by omega) rfl 0 (by decide) (Nat.le_of_ble_eq_true rfl) ku_X6 (by decide +kernel) tyX6 tyX6_ok nmX6 rfl (by decide +kernel) (fun _ => rfl) (fun _ => rfl) ?_
      refine qq_goto (tgt := 23) dL_opposite_17 (by decide) ?_
      refine qq_iconst (v := 0) dL_opposite_23 (by decide) ?_
      exact qq_iret dL_opposite_24 rfl rfl ⟨0, 1, S, rfl, cs_up hS1 hoE, up_p, lsx_p sM1, Or.inl ⟨rfl, zg0, rfl, by rw [if_neg zc]⟩⟩
  · obtain ⟨rfl, zx⟩ := zx
    obtain ⟨rfl, zf⟩ := zx
    refine qq_catch (name := "java/lang/IllegalArgumentException") (n := 20) (loc' := [(0, .ref 80), (1, .int p0), (2, .ref o)]) [] (0, 17, 20, 21) [] rfl (fun z hz => nomatch hz) (fun z hz => by obtain rfl := List.mem_singleton.mp hz; exact ⟨rfl, by decide, kl_L_21, rfl⟩) rfl rfl (by decide +kernel) (i := 3) (ln := 1) [0, 1, 2] (Or.inl ⟨dL_opposite_20, by decide, rfl⟩) (Nat.le_of_ble_eq_true rfl) rfl ?_
    refine qq_iconst (v := 1) dL_opposite_21 (by decide) ?_
    exact qq_iret dL_opposite_22 rfl rfl ⟨1, n, S, rfl, hS, ho, lsx_r (sm_r hp), (Or.inr ⟨rfl, zf, rfl, rfl⟩)⟩
set_option maxRecDepth 4000 in
theorem mt_L_house (hp : qq_H) (S : sX) (hS : cs_X S hp) (o : Nat) (n : Int64) (sv : Value) (ho : hp.2 o = .inr (3, [.long n, sv])) (hoE : 84 ≤ o) (p0 : Int32) : qq_Mt mL_house [.ref 80, .int p0, .ref o] hp 1 6 (fun v hp' => ∃ (k : Int32) (n' : Int64) (S' : sX), v = some (.int k) ∧ cs_X S' hp' ∧ hp'.2 o = .inr (3, [.long n', sv]) ∧ ls_X o hp hp' ∧ ((k = 0 ∧ (¬ p0 < 0 ∧ ¬ 4 < p0) ∧ S' = S ∧ n' = (r_X5_house p0 S).toInt64) ∨ (k = 1 ∧ (p0 < 0 ∨ 4 < p0) ∧ S' = S ∧ n' = n))) (fun _ _ => False) := by
  refine qq_met pn_L (Nat.le_of_ble_eq_true rfl) (Nat.le_of_ble_eq_true rfl) kc_L_house ?_
  show qq_Go _ hp 1 6 0 [(0, .ref 80), (1, .int p0), (2, .ref o)] [] _ _
  refine qq_aload_n dL_house_0 rfl 2 rfl ?_
  refine qq_aload_n dL_house_1 rfl 0 rfl ?_
  refine qq_iload_n dL_house_2 rfl 1 rfl ?_
  refine qq_callV (bc := 0) (bs := 0) (mc := 1) (ms := 6) (o := 80) (ci := 2) (N := 6) (T := TX5) (as := [.int p0]) (rest := [.ref o]) dL_house_3 hS.2.2.1 (by decide) rfl (mt_X5_house hp S hS p0) rfl kl_L_163 kn_X5_house ke_X5_house ki_X5 kc_X5_house kd_X5_house rfl (by decide) (by decide) (Nat.le_of_ble_eq_true rfl) (fun v hp1 hv _ _ => ?_) (fun E hp1 zx _ _ => ?_)
  · obtain ⟨rfl, rfl, zg0⟩ := hv
    have hS1 := hS
    have sM1 := sm_r hp
    refine qq_i2l dL_house_6 ?_
    have ho1 : hp.2 o = .inr (3, [.long n, sv]) := (sM1.2 o (Or.inr hoE)).trans ho
    refine qq_putN (C := RX6) (host := "QuarterpowersLaw") (T := TX6) (N := 2) (ty := .long) dL_house_7 ho1 (show 80 ≤ o by omega) rfl 0 (by decide) (Nat.le_of_ble_eq_true rfl) ku_X6 (by decide +kernel) tyX6 tyX6_ok nmX6 rfl (by decide +kernel) (fun _ => rfl) (fun _ => rfl) ?_
    refine qq_goto (tgt := 16) dL_house_10 (by decide) ?_
    refine qq_iconst (v := 0) dL_house_16 (by decide) ?_
    exact qq_iret dL_house_17 rfl rfl ⟨0, (r_X5_house p0 S).toInt64, S, rfl, cs_up hS1 hoE, up_p, lsx_p sM1, Or.inl ⟨rfl, zg0, rfl, rfl⟩⟩
  · obtain ⟨rfl, zx⟩ := zx
    obtain ⟨rfl, zf⟩ := zx
    refine qq_catch (name := "java/lang/IllegalArgumentException") (n := 13) (loc' := [(0, .ref 80), (1, .int p0), (2, .ref o)]) [] (0, 10, 13, 21) [] rfl (fun z hz => nomatch hz) (fun z hz => by obtain rfl := List.mem_singleton.mp hz; exact ⟨rfl, by decide, kl_L_21, rfl⟩) rfl rfl (by decide +kernel) (i := 3) (ln := 1) [0, 1, 2] (Or.inl ⟨dL_house_13, by decide, rfl⟩) (Nat.le_of_ble_eq_true rfl) rfl ?_
    refine qq_iconst (v := 1) dL_house_14 (by decide) ?_
    exact qq_iret dL_house_15 rfl rfl ⟨1, n, S, rfl, hS, ho, lsx_r (sm_r hp), (Or.inr ⟨rfl, zf, rfl, rfl⟩)⟩
