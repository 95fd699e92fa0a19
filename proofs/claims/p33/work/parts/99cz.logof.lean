def lgI (hp : qq_H) (lgv : Nat → Option Nat) (f : qR) (H : qq_H) : Prop := H.1 = hp.1 + 3 ∧ (∀ k, k < hp.1 → k ≠ 86 → H.2 k = hp.2 k) ∧ H.2 86 = .inl (4, 164, .inr (.inr (.inr (.inr lgv)))) ∧ H.2 (hp.1 + 2) = c_row f
theorem lgI_add {hp H : qq_H} {lgv : Nat → Option Nat} {f g : qR} (h : lgI hp lgv f H) (hE : 419 ≤ hp.1) : lgI hp lgv g (qq_pt H (hp.1 + 2) (c_row g)) := by
  obtain ⟨h1, h2, h3, h4⟩ := h
  exact ⟨h1, fun k hk h6 => (up_o (show k ≠ hp.1 + 2 by omega) (h2 k hk h6)), up_o (show 86 ≠ hp.1 + 2 by omega) h3, up_s⟩
theorem lg_ix {q : Int32} (h : -3 ≤ q.toInt ∧ q.toInt ≤ 160) : vp_in (q + 3) 164 ∧ LG (q + 3).toNatClampNeg = LGq q := by
  have e3 : (3 : Int32).toInt = 3 := rfl
  have e : (q + 3).toInt = q.toInt + 3 := by
    rw [Int32.toInt_add, e3, Int.bmod_eq_of_le (by omega) (by omega)]
  refine ⟨by rw [vp_in_iff]; omega, ?_⟩
  have e4 : Int32.ofNat (q + 3).toNatClampNeg - 3 = q := by
    apply Int32.toInt_inj.mp
    have e5 : (Int32.ofNat (q + 3).toNatClampNeg).toInt = q.toInt + 3 := by
      show (Int32.ofNat (q + 3).toInt.toNat).toInt = _
      have es : Int32.size = 4294967296 := rfl
      rw [e, Int32.toInt_ofNat', Int.bmod_eq_of_le (by omega) (by omega)]
      omega
    rw [Int32.toInt_sub, e5, e3, Int.bmod_eq_of_le (by omega) (by omega)]
    omega
  unfold LG
  rw [e4]
/-- the tables' ends, looked at one by one -/
def lgP (q : Int32) : Bool :=
  decide ((3 * (4 + q)) ≤ ((4 : Int32) <<< (f_twos 12 (4 + q) 0 &&& 31))) && decide ((f_J9_abs_0f7a4 (lg_tw q - 2)).toInt ≤ 12) &&
  decide (0 ≤ (f_J9_abs_0f7a4 ((4 + q) - lg_nr q)).toInt) && decide (0 < ((4 + q) + lg_nr q).toInt) && decide (((4 + q) + lg_nr q).toInt ≤ 1000) && decide (3 * (f_J9_abs_0f7a4 ((4 + q) - lg_nr q)).toInt ≤ ((4 + q) + lg_nr q).toInt)
theorem lgP_all : (List.range 164).all (fun j => lgP (Int32.ofNat j - 3)) = true := by decide +kernel
theorem lgP_q {q : Int32} (h : -3 ≤ q.toInt ∧ q.toInt ≤ 160) : lgP q = true := by
  have h2 := (lg_ix h).1
  have e3 : (3 : Int32).toInt = 3 := rfl
  have e : (q + 3).toInt = q.toInt + 3 := by
    rw [Int32.toInt_add, e3, Int.bmod_eq_of_le (by omega) (by omega)]
  have e4 : Int32.ofNat (q + 3).toNatClampNeg - 3 = q := by
    apply Int32.toInt_inj.mp
    have e5 : (Int32.ofNat (q + 3).toNatClampNeg).toInt = q.toInt + 3 := by
      show (Int32.ofNat (q + 3).toInt.toNat).toInt = _
      have es : Int32.size = 4294967296 := rfl
      rw [e, Int32.toInt_ofNat', Int.bmod_eq_of_le (by omega) (by omega)]
      omega
    rw [Int32.toInt_sub, e5, e3, Int.bmod_eq_of_le (by omega) (by omega)]
    omega
  have := List.all_eq_true.mp lgP_all (q + 3).toNatClampNeg (List.mem_range.mpr (vp_lt h2))
  rw [e4] at this
  exact this
theorem ms_lg {A : qA} {S : sM} {hp H : qq_H} {q : Int32} {lg : Nat → Option Nat} (h : ms_M A S hp) (hq : -3 ≤ q.toInt ∧ q.toInt ≤ 160) (r6 : ∀ j r, j < 164 → lg j = some r → 94 ≤ r ∧ r < hp.1 ∧ hp.2 r = c_row (LG j)) (hI : lgI hp (va_up lg (q + 3).toNatClampNeg (some (hp.1 + 2))) (LGq q) H) : ms_M A S H ∧ fr A hp H := by
  obtain ⟨i1, i2, i3, i4⟩ := hI
  obtain ⟨h1, h2, h3, h4, h5, h6, h7, ⟨pf, q1, q1'⟩, q2, q3, lg0, q5, _⟩ := h
  obtain ⟨a1, a2, a3, a4⟩ := h7
  have n1 : A.1 ≠ 86 := row_nt h4 q5 (by decide)
  have n2 : A.2.1 ≠ 86 := row_nt h5 q5 (by decide)
  have n3 : A.2.2 ≠ 86 := fun e => by
    rw [e, q5] at h6
    injection h6 with h6
    injection h6 with h6 _
    exact absurd h6 (by decide)
  have nr : ∀ r (f : Nat → Int32), hp.2 r = c_row f → r ≠ 86 := fun r f hr => row_nt hr q5 (by decide)
  refine ⟨⟨qq_exm h1 (by omega) (fun k hk => i2 k (by omega) (by omega)), by omega, (i2 84 (by omega) (by decide)).trans h3, (i2 _ a1.2 n1).trans h4, (i2 _ a2.2 n2).trans h5, (i2 _ a3.2 n3).trans h6, ⟨⟨a1.1, by omega⟩, ⟨a2.1, by omega⟩, ⟨a3.1, by omega⟩, a4⟩, ⟨pf, (i2 85 (by omega) (by decide)).trans q1, q1'⟩, fun j hj => (i2 _ (by have := pr_in hj; omega) (nr _ _ (q2 j hj))).trans (q2 j hj), (i2 89 (by omega) (by decide)).trans q3, _, i3, fun j r hj hr => ?_⟩, ⟨by omega, fun j hj _ d2 _ _ _ => i2 j hj d2⟩⟩
  simp only [va_up] at hr
  by_cases e : j = (q + 3).toNatClampNeg
  · rw [if_pos e] at hr
    cases hr
    refine ⟨by omega, by omega, ?_⟩
    rw [i4, e, (lg_ix hq).2]
  · rw [if_neg e] at hr
    obtain ⟨t1, t2, t3⟩ := r6 j r hj hr
    exact ⟨t1, by omega, (i2 r t2 (nr _ _ t3)).trans t3⟩
theorem lq_X7_logOf_17 {P : Option Value → qq_H → Prop} {PX : String → qq_H → Prop} (q9 m9 : Int32) (hp : qq_H) (bc bs : Nat) : ∀ (fu : Nat) (t9 : Int32), ((3 * m9) ≤ ((4 : Int32) <<< (f_twos fu m9 t9 &&& 31))) → qq_Go mX7_logOf hp bc bs 32 [(0, .ref 84), (1, .int q9), (2, .int m9), (3, .int (f_twos fu m9 t9))] [] P PX → qq_Go mX7_logOf hp bc bs 17 [(0, .ref 84), (1, .int q9), (2, .int m9), (3, .int t9)] [] P PX := by
  intro fu
  induction fu with
  | zero =>
    intro t9 hx hk
    refine qq_iconst (v := 3) dX7_logOf_17 (by decide) ?_
    refine qq_iload_n dX7_logOf_18 rfl 2 rfl ?_
    refine qq_imul dX7_logOf_19 ?_
    refine qq_iconst (v := 4) dX7_logOf_20 (by decide) ?_
    refine qq_iload_n dX7_logOf_21 rfl 3 rfl ?_
    refine qq_ishl dX7_logOf_22 ?_
    refine qq_icmp_le (tgt := 32) dX7_logOf_23 (by decide) (fun zc => ?_) (fun zc => ?_)
    · exact hk
    · exact absurd hx zc
  | succ fu ih =>
    intro t9 hx hk
    refine qq_iconst (v := 3) dX7_logOf_17 (by decide) ?_
    refine qq_iload_n dX7_logOf_18 rfl 2 rfl ?_
    refine qq_imul dX7_logOf_19 ?_
    refine qq_iconst (v := 4) dX7_logOf_20 (by decide) ?_
    refine qq_iload_n dX7_logOf_21 rfl 3 rfl ?_
    refine qq_ishl dX7_logOf_22 ?_
    refine qq_icmp_le (tgt := 32) dX7_logOf_23 (by decide) (fun zc => ?_) (fun zc => ?_)
    · rw [f_twos, if_pos zc] at hk
      exact hk
    · rw [f_twos, if_neg zc] at hk hx
      refine qq_iinc (v := t9 + 1) (loc' := [(0, .ref 84), (1, .int q9), (2, .int m9), (3, .int (t9 + 1))]) dX7_logOf_26 3 rfl rfl [1, 2, 3, 0] (Nat.le_of_ble_eq_true rfl) rfl ?_
      refine qq_goto (tgt := 17) dX7_logOf_29 (by decide) ?_
      exact ih _ hx hk
theorem qm_pn {k : Int32} (h : ¬ k ≤ 0) : ¬ k < 0 := by
  rw [Int32.le_iff_toInt_le] at h
  rw [Int32.lt_iff_toInt_lt]
  omega
theorem lq_X7_logOf_64 {P : Option Value → qq_H → Prop} {PX : String → qq_H → Prop} {A : qA} {S : sM} {hp : qq_H} (hS : ms_M A S hp) (q9 m9 tw nr : Int32) (lgv : Nat → Option Nat) (hi : vp_in (q9 + 3) 164) (hg : lgv (q9 + 3).toNatClampNeg = some (hp.1 + 2)) : ∀ (fu : Nat) (k9 : Int32) (f : qR) (H : qq_H), lgI hp lgv f H → k9.toInt ≤ fu → (∀ H', lgI hp lgv (lg_add tw fu k9 f) H' → qq_Go mX7_logOf H' 0 0 100 [(0, .ref 84), (1, .int q9)] [] P PX) → qq_Go mX7_logOf H 0 0 64 [(0, .ref 84), (1, .int q9), (2, .int m9), (3, .int tw), (4, .int nr), (5, .int k9)] [] P PX := by
  have hO : ∀ {f : qR} (H : qq_H), lgI hp lgv f H → H.2 84 = .inr (4, ms_ob A S) := fun H h => (h.2.1 84 (ms_84 hS) (by decide)).trans hS.2.2.1
  have hT : ∀ {f : qR} (H : qq_H), lgI hp lgv f H → H.2 89 = .inl (0, 11, .inl TWO) := fun H h => (h.2.1 89 (Nat.lt_of_lt_of_le (by decide) hS.2.1) (by decide)).trans hS.2.2.2.2.2.2.2.2.2.1
  intro fu
  induction fu with
  | zero =>
    intro k9 f H hI hm hk
    refine qq_iload dX7_logOf_64 5 rfl ?_
    refine qq_if_le (tgt := 100) dX7_logOf_66 (by decide) (fun zc => ?_) (fun zc => ?_)
    · refine qq_loc [0, 1] rfl ?_
      exact hk H hI
    · exact absurd (by rw [Int32.le_iff_toInt_le]; exact hm) zc
  | succ fu ih =>
    intro k9 f H hI hm hk
    refine qq_iload dX7_logOf_64 5 rfl ?_
    refine qq_if_le (tgt := 100) dX7_logOf_66 (by decide) (fun zc => ?_) (fun zc => ?_)
    · rw [lg_add, if_pos zc] at hk
      refine qq_loc [0, 1] rfl ?_
      exact hk H hI
    · rw [lg_add, if_neg zc] at hk
      refine qq_aload_n dX7_logOf_69 rfl 0 rfl ?_
      refine qq_get (C := RX7) (T := TX7) (N := 11) dX7_logOf_70 (hO H hI) rfl 1 (by decide) rfl ku_X7 kl_X7_15 ?_
      refine qq_iload_n dX7_logOf_73 rfl 1 rfl ?_
      refine qq_iconst (v := 3) dX7_logOf_74 (by decide) ?_
      refine qq_iadd dX7_logOf_75 ?_
      refine qq_aald dX7_logOf_76 hI.2.2.1 (Or.inl ⟨rfl, by decide⟩) hi ?_
      rw [hg]
      show qq_Go _ H 0 0 77 [(0, .ref 84), (1, .int q9), (2, .int m9), (3, .int tw), (4, .int nr), (5, .int k9)] [.ref (hp.1 + 2)] _ _
      refine qq_aload_n dX7_logOf_77 rfl 0 rfl ?_
      refine qq_get (C := RX7) (T := TX7) (N := 11) dX7_logOf_78 (hO H hI) rfl 2 (by decide) rfl ku_X7 kl_X7_22 ?_
      refine qq_iload_n dX7_logOf_81 rfl 3 rfl ?_
      refine qq_iconst (v := 2) dX7_logOf_82 (by decide) ?_
      refine qq_icmp_ge (tgt := 90) dX7_logOf_83 (by decide) (fun zt => ?_) (fun zt => ?_)
      · refine qq_iconst (v := 0) dX7_logOf_90 (by decide) ?_
        refine qq_callS (bc := 0) (bs := 0) (mc := 0) (ms := 0) (as := [.ref (hp.1 + 2), .ref 89, .int 0]) (rest := []) dX7_logOf_91 (mt_X7_add H (0 : Int32) 89 (hp.1 + 2) TWO f (hT H hI) hI.2.2.2 (by have := hS.2.1; omega) (by have := hS.2.1; omega)) rfl kl_X7_56 ks_X7_add ki_X7 kc_X7_add kd_X7_add rfl (by decide) (by decide) (Nat.le_of_ble_eq_true rfl) (fun v hp' hv _ _ => ?_) (fun E hp' zx _ _ => zx.elim)
        obtain ⟨rfl, rfl⟩ := hv
        rw [if_pos zt] at hk
        refine qq_iinc (v := k9 + (-1)) (loc' := [(0, .ref 84), (1, .int q9), (2, .int m9), (3, .int tw), (4, .int nr), (5, .int (k9 + (-1)))]) dX7_logOf_94 5 rfl rfl [1, 2, 3, 4, 5, 0] (Nat.le_of_ble_eq_true rfl) rfl ?_
        refine qq_goto (tgt := 64) dX7_logOf_97 (by decide) ?_
        exact ih _ _ _ (lgI_add hI hS.2.1) (by have := qm_decI (qm_pn zc); omega) hk
      · refine qq_iconst (v := 1) dX7_logOf_86 (by decide) ?_
        refine qq_goto (tgt := 91) dX7_logOf_87 (by decide) ?_
        refine qq_callS (bc := 0) (bs := 0) (mc := 0) (ms := 0) (as := [.ref (hp.1 + 2), .ref 89, .int 1]) (rest := []) dX7_logOf_91 (mt_X7_add H (1 : Int32) 89 (hp.1 + 2) TWO f (hT H hI) hI.2.2.2 (by have := hS.2.1; omega) (by have := hS.2.1; omega)) rfl kl_X7_56 ks_X7_add ki_X7 kc_X7_add kd_X7_add rfl (by decide) (by decide) (Nat.le_of_ble_eq_true rfl) (fun v hp' hv _ _ => ?_) (fun E hp' zx _ _ => zx.elim)
        obtain ⟨rfl, rfl⟩ := hv
        rw [if_neg zt] at hk
        refine qq_iinc (v := k9 + (-1)) (loc' := [(0, .ref 84), (1, .int q9), (2, .int m9), (3, .int tw), (4, .int nr), (5, .int (k9 + (-1)))]) dX7_logOf_94 5 rfl rfl [1, 2, 3, 4, 5, 0] (Nat.le_of_ble_eq_true rfl) rfl ?_
        refine qq_goto (tgt := 64) dX7_logOf_97 (by decide) ?_
        exact ih _ _ _ (lgI_add hI hS.2.1) (by have := qm_decI (qm_pn zc); omega) hk
def r_X7_logOf (q9 : Int32) (_ : sM) : qR := LGq q9
set_option maxRecDepth 4000 in
theorem mt_X7_logOf (hp : qq_H) (A : qA) (S : sM) (hS : ms_M A S hp) (q9 : Int32) (zq : -3 ≤ q9.toInt ∧ q9.toInt ≤ 160) : qq_Mt mX7_logOf [.ref 84, .int q9] hp 3 33 (fun v hp' => ∃ r : Nat, v = some (.ref r) ∧ ms_M A S hp' ∧ fr A hp hp' ∧ hp'.2 r = c_row (r_X7_logOf q9 S) ∧ r < hp'.1) (fun _ _ => False) := by
  refine qq_met pn_X7 (Nat.le_of_ble_eq_true rfl) (Nat.le_of_ble_eq_true rfl) kc_X7_logOf ?_
  show qq_Go _ hp 3 33 0 [(0, .ref 84), (1, .int q9)] [] _ _
  obtain ⟨r1, r2, r3, lg, r5, r6⟩ := hS.2.2.2.2.2.2.2
  obtain ⟨hi, hx⟩ := lg_ix zq
  have hL := lgP_q zq
  simp only [lgP, Bool.and_eq_true, decide_eq_true_eq] at hL
  obtain ⟨⟨⟨⟨⟨p1, p2⟩, p3⟩, p4⟩, p5⟩, p6⟩ := hL
  refine qq_aload_n dX7_logOf_0 rfl 0 rfl ?_
  refine qq_get (C := RX7) (T := TX7) (N := 11) dX7_logOf_1 hS.2.2.1 rfl 1 (by decide) rfl ku_X7 kl_X7_15 ?_
  refine qq_iload_n dX7_logOf_4 rfl 1 rfl ?_
  refine qq_iconst (v := 3) dX7_logOf_5 (by decide) ?_
  refine qq_iadd dX7_logOf_6 ?_
  refine qq_aald dX7_logOf_7 r5 (Or.inl ⟨rfl, by decide⟩) hi ?_
  cases hj : lg (q9 + 3).toNatClampNeg with
  | some r =>
    show qq_Go _ hp 3 33 8 [(0, .ref 84), (1, .int q9)] [.ref r] _ _
    refine qq_ifnonnull (tgt := 100) dX7_logOf_8 (by decide) ?_
    refine qq_aload_n dX7_logOf_100 rfl 0 rfl ?_
    refine qq_get (C := RX7) (T := TX7) (N := 11) dX7_logOf_101 hS.2.2.1 rfl 1 (by decide) rfl ku_X7 kl_X7_15 ?_
    refine qq_iload_n dX7_logOf_104 rfl 1 rfl ?_
    refine qq_iconst (v := 3) dX7_logOf_105 (by decide) ?_
    refine qq_iadd dX7_logOf_106 ?_
    refine qq_aald dX7_logOf_107 r5 (Or.inl ⟨rfl, by decide⟩) hi ?_
    rw [hj]
    obtain ⟨t1, t2, t3⟩ := r6 _ _ (vp_lt hi) hj
    exact qq_aret dX7_logOf_108 rfl (Or.inr ⟨_, rfl⟩) (Or.inr ⟨_, rfl⟩) ⟨r, rfl, hS, fr_r _ _, by rw [t3, hx]; rfl, t2⟩
  | none =>
    show qq_Go _ hp 3 33 8 [(0, .ref 84), (1, .int q9)] [.null] _ _
    refine qq_ifnonnullN dX7_logOf_8 ?_
    refine qq_iconst (v := 4) dX7_logOf_11 (by decide) ?_
    refine qq_iload_n dX7_logOf_12 rfl 1 rfl ?_
    refine qq_iadd dX7_logOf_13 ?_
    refine qq_istore_n (loc' := [(0, .ref 84), (1, .int q9), (2, .int (4 + q9))]) dX7_logOf_14 rfl [1, 2, 0] (Nat.le_of_ble_eq_true rfl) rfl ?_
    refine qq_iconst (v := 0) dX7_logOf_15 (by decide) ?_
    refine qq_istore_n (loc' := [(0, .ref 84), (1, .int q9), (2, .int (4 + q9)), (3, .int 0)]) dX7_logOf_16 rfl [1, 2, 3, 0] (Nat.le_of_ble_eq_true rfl) rfl ?_
    refine lq_X7_logOf_17 q9 (4 + q9) hp 3 33 12 0 p1 ?_
    obtain ⟨tw, htw⟩ : ∃ t, f_twos 12 (4 + q9) 0 = t := ⟨_, rfl⟩
    rw [htw]
    refine qq_iconst (v := 1) dX7_logOf_32 (by decide) ?_
    refine qq_iload_n dX7_logOf_33 rfl 3 rfl ?_
    refine qq_ishl dX7_logOf_34 ?_
    refine qq_istore (loc' := [(0, .ref 84), (1, .int q9), (2, .int (4 + q9)), (3, .int tw), (4, .int ((1 : Int32) <<< (tw &&& 31)))]) dX7_logOf_35 [1, 2, 3, 4, 0] (Nat.le_of_ble_eq_true rfl) rfl ?_
    refine qq_aload_n dX7_logOf_37 rfl 0 rfl ?_
    refine qq_get (C := RX7) (T := TX7) (N := 11) dX7_logOf_38 hS.2.2.1 rfl 1 (by decide) rfl ku_X7 kl_X7_15 ?_
    refine qq_iload_n dX7_logOf_41 rfl 1 rfl ?_
    refine qq_iconst (v := 3) dX7_logOf_42 (by decide) ?_
    refine qq_iadd dX7_logOf_43 ?_
    refine qq_iload_n dX7_logOf_44 rfl 2 rfl ?_
    refine qq_iload dX7_logOf_45 4 rfl ?_
    refine qq_isub dX7_logOf_47 ?_
    refine qq_iload_n dX7_logOf_48 rfl 2 rfl ?_
    refine qq_iload dX7_logOf_49 4 rfl ?_
    refine qq_iadd dX7_logOf_51 ?_
    obtain ⟨nr, hnr⟩ : ∃ t, (1 : Int32) <<< (tw &&& 31) = t := ⟨_, rfl⟩
    have e1 : lg_tw q9 = tw := htw
    have e2 : lg_nr q9 = nr := by unfold lg_nr; rw [e1, hnr]
    rw [e2] at p3 p4 p5 p6
    rw [e1] at p2
    rw [hnr]
    refine qq_callS (bc := 0) (bs := 0) (mc := 3) (ms := 33) (as := [.int ((4 + q9) - nr), .int ((4 + q9) + nr)]) (rest := [.int (q9 + 3), .ref 86]) dX7_logOf_52 (mt_X7_ratioLog hp ((4 + q9) - nr) ((4 + q9) + nr) (ms_80 hS) p3 p4 p5 p6) rfl kl_X7_18 ks_X7_ratioLog ki_X7 kc_X7_ratioLog kd_X7_ratioLog rfl (by decide) (by decide) (Nat.le_of_ble_eq_true rfl) (fun v H0 hv _ _ => ?_) (fun E hp' zx _ _ => zx.elim)
    obtain ⟨rfl, hv⟩ := hv
    show qq_Go _ H0 0 0 55 [(0, .ref 84), (1, .int q9), (2, .int (4 + q9)), (3, .int tw), (4, .int nr)] [.ref (hp.1 + 2), .int (q9 + 3), .ref 86] _ _
    have h419 := hS.2.1
    have k1 : H0.1 = hp.1 + 3 := by rw [← hv]; rfl
    have k2 : ∀ k, k < hp.1 → H0.2 k = hp.2 k := fun k hk => by
      rw [← hv]
      exact up_o (show k ≠ hp.1 + 2 by omega) (up_o (show k ≠ hp.1 + 1 by omega) (up_o (show k ≠ hp.1 by omega) rfl))
    have k3 : H0.2 (hp.1 + 2) = .inl (0, 11, .inl (r_X7_ratioLog ((4 + q9) - nr) ((4 + q9) + nr)).2.2) := by rw [← hv]; exact up_s
    refine qq_aastA (nv := 0) dX7_logOf_55 ((k2 86 (by omega)).trans r5) (by decide) k3 (show 80 ≤ hp.1 + 2 by omega) hi ?_
    obtain ⟨H, hH⟩ : ∃ h : qq_H, (H0.1, va_up H0.2 86 (.inl (4, 164, .inr (.inr (.inr (.inr (va_up lg (q9 + 3).toNatClampNeg (some (hp.1 + 2))))))))) = h := ⟨_, rfl⟩
    refine qq_hp hH ?_
    have hI0 : lgI hp (va_up lg (q9 + 3).toNatClampNeg (some (hp.1 + 2))) (r_X7_ratioLog ((4 + q9) - nr) ((4 + q9) + nr)).2.2 H := by
      rw [← hH]
      refine ⟨k1, fun k hk h6 => ?_, ?_, ?_⟩
      · show va_up _ _ _ k = _
        exact up_o h6 (k2 k hk)
      · simp only [va_up, if_true]
      · show va_up _ _ _ (hp.1 + 2) = _
        exact up_o (show hp.1 + 2 ≠ 86 by omega) k3
    refine qq_iload_n dX7_logOf_56 rfl 3 rfl ?_
    refine qq_iconst (v := 2) dX7_logOf_57 (by decide) ?_
    refine qq_isub dX7_logOf_58 ?_
    refine qq_callS (bc := 0) (bs := 0) (mc := 0) (ms := 0) (as := [.int (tw - 2)]) (rest := []) dX7_logOf_59 (mt_J9_abs_0f7a4 H (tw - 2)) rfl kl_X7_68 ks_J9_abs_0f7a4 ki_J9 kc_J9_abs_0f7a4 kd_J9_abs_0f7a4 rfl (by decide) (by decide) (Nat.le_of_ble_eq_true rfl) (fun v hp' hv _ _ => ?_) (fun E hp' zx _ _ => zx.elim)
    obtain ⟨rfl, rfl⟩ := hv
    show qq_Go _ H 0 0 62 [(0, .ref 84), (1, .int q9), (2, .int (4 + q9)), (3, .int tw), (4, .int nr)] [.int (f_J9_abs_0f7a4 (tw - 2))] _ _
    refine qq_istore (loc' := [(0, .ref 84), (1, .int q9), (2, .int (4 + q9)), (3, .int tw), (4, .int nr), (5, .int (f_J9_abs_0f7a4 (tw - 2)))]) dX7_logOf_62 [1, 2, 3, 4, 5, 0] (Nat.le_of_ble_eq_true rfl) rfl ?_
    refine lq_X7_logOf_64 hS q9 (4 + q9) tw nr _ hi (by simp only [va_up]; rw [if_pos trivial]) 12 _ _ H hI0 p2 (fun H2 hI2 => ?_)
    have eL : lg_add tw 12 (f_J9_abs_0f7a4 (tw - 2)) (r_X7_ratioLog ((4 + q9) - nr) ((4 + q9) + nr)).2.2 = LGq q9 := by
      unfold LGq
      rw [e1, e2]
    rw [eL] at hI2
    obtain ⟨m1, m2⟩ := ms_lg hS zq r6 hI2
    have hO2 := m1.2.2.1
    refine qq_aload_n dX7_logOf_100 rfl 0 rfl ?_
    refine qq_get (C := RX7) (T := TX7) (N := 11) dX7_logOf_101 hO2 rfl 1 (by decide) rfl ku_X7 kl_X7_15 ?_
    refine qq_iload_n dX7_logOf_104 rfl 1 rfl ?_
    refine qq_iconst (v := 3) dX7_logOf_105 (by decide) ?_
    refine qq_iadd dX7_logOf_106 ?_
    refine qq_aald dX7_logOf_107 hI2.2.2.1 (Or.inl ⟨rfl, by decide⟩) hi ?_
    have eg : va_up lg (q9 + 3).toNatClampNeg (some (hp.1 + 2)) (q9 + 3).toNatClampNeg = some (hp.1 + 2) := by simp only [va_up]; rw [if_pos trivial]
    rw [eg]
    exact qq_aret dX7_logOf_108 rfl (Or.inr ⟨_, rfl⟩) (Or.inr ⟨_, rfl⟩) ⟨hp.1 + 2, rfl, m1, m2, hI2.2.2.2, by rw [hI2.1]; omega⟩
