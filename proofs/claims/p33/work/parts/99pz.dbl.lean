theorem lq_asD_19 (hp : qq_H) (w : Int64) (n : Int32) {P : Option Value → qq_H → Prop} {PX : String → qq_H → Prop} : ∀ (fu : Nat) (d : UInt64) (i : Int32) (r : UInt64), as_m n fu d i = some r → (∀ i', qq_Go mX1_asDouble hp 0 0 38 [(0, .long w), (2, .double r), (4, .int n), (5, .int i')] [] P PX) → qq_Go mX1_asDouble hp 0 0 19 [(0, .long w), (2, .double d), (4, .int n), (5, .int i)] [] P PX := by
  intro fu
  induction fu with
  | zero => intro d i r h; exact nomatch h
  | succ fu ih =>
    intro d i r h hk
    rw [as_m] at h
    refine qq_iload dX1_asDouble_19 3 rfl ?_
    refine qq_iload dX1_asDouble_21 2 rfl ?_
    refine qq_icmp_ge (tgt := 38) dX1_asDouble_23 (by decide) (fun zc => ?_) (fun zc => ?_)
    · rw [if_pos zc] at h
      cases h
      exact hk i
    · rw [if_neg zc] at h
      by_cases zo : okd (FP.dmul d 4611686018427387904) = true
      · rw [if_pos zo] at h
        refine qq_dload_n dX1_asDouble_26 rfl 1 rfl ?_
        refine qq_ldc2d (v := 4611686018427387904) dX1_asDouble_27 kl_X1_71 ?_
        refine qq_dmul dX1_asDouble_30 (okd_n zo) ?_
        refine qq_dstore_n (loc' := [(0, .long w), (2, .double (FP.dmul d 4611686018427387904)), (4, .int n), (5, .int i)]) dX1_asDouble_31 rfl [1, 0, 2, 3] (Nat.le_of_ble_eq_true rfl) rfl ?_
        refine qq_iinc (v := i + 1) (loc' := [(0, .long w), (2, .double (FP.dmul d 4611686018427387904)), (4, .int n), (5, .int (i + 1))]) dX1_asDouble_32 3 rfl rfl [1, 2, 3, 0] (Nat.le_of_ble_eq_true rfl) rfl ?_
        refine qq_goto (tgt := 19) dX1_asDouble_35 (by decide) ?_
        exact ih _ _ _ h hk
      · rw [if_neg zo] at h
        exact nomatch h
theorem lq_asD_41 (hp : qq_H) (w : Int64) (n : Int32) {P : Option Value → qq_H → Prop} {PX : String → qq_H → Prop} : ∀ (fu : Nat) (d : UInt64) (i : Int32) (r : UInt64), as_d n fu d i = some r → (∀ i', qq_Go mX1_asDouble hp 0 0 61 [(0, .long w), (2, .double r), (4, .int n), (5, .int i')] [] P PX) → qq_Go mX1_asDouble hp 0 0 41 [(0, .long w), (2, .double d), (4, .int n), (5, .int i)] [] P PX := by
  intro fu
  induction fu with
  | zero => intro d i r h; exact nomatch h
  | succ fu ih =>
    intro d i r h hk
    rw [as_d] at h
    refine qq_iload dX1_asDouble_41 3 rfl ?_
    refine qq_iload dX1_asDouble_43 2 rfl ?_
    refine qq_ineg dX1_asDouble_45 ?_
    refine qq_icmp_ge (tgt := 61) dX1_asDouble_46 (by decide) (fun zc => ?_) (fun zc => ?_)
    · rw [if_pos zc] at h
      cases h
      exact hk i
    · rw [if_neg zc] at h
      by_cases zo : okd (FP.ddiv d 4611686018427387904) = true
      · rw [if_pos zo] at h
        refine qq_dload_n dX1_asDouble_49 rfl 1 rfl ?_
        refine qq_ldc2d (v := 4611686018427387904) dX1_asDouble_50 kl_X1_71 ?_
        refine qq_ddiv dX1_asDouble_53 (okd_n zo) ?_
        refine qq_dstore_n (loc' := [(0, .long w), (2, .double (FP.ddiv d 4611686018427387904)), (4, .int n), (5, .int i)]) dX1_asDouble_54 rfl [1, 0, 2, 3] (Nat.le_of_ble_eq_true rfl) rfl ?_
        refine qq_iinc (v := i + 1) (loc' := [(0, .long w), (2, .double (FP.ddiv d 4611686018427387904)), (4, .int n), (5, .int (i + 1))]) dX1_asDouble_55 3 rfl rfl [1, 2, 3, 0] (Nat.le_of_ble_eq_true rfl) rfl ?_
        refine qq_goto (tgt := 41) dX1_asDouble_58 (by decide) ?_
        exact ih _ _ _ h hk
      · rw [if_neg zo] at h
        exact nomatch h
theorem mt_X1_asDouble (hp : qq_H) (w : Int64) (r : UInt64) (h : f_asD w = some r) : qq_Mt mX1_asDouble [.long w] hp 0 0 (fun v hp' => v = some (.double r) ∧ hp = hp') (fun _ _ => False) := by
  refine qq_met pn_X1 (Nat.le_of_ble_eq_true rfl) (Nat.le_of_ble_eq_true rfl) kc_X1_asDouble ?_
  show qq_Go _ hp 0 0 0 [(0, .long w)] [] _ _
  obtain ⟨d, hd, hr⟩ := Option.bind_eq_some_iff.mp h
  refine qq_lload_n dX1_asDouble_0 rfl 0 rfl ?_
  refine qq_callS (bc := 0) (bs := 0) (mc := 0) (ms := 0) (as := [.long w]) (rest := []) dX1_asDouble_1 (mt_X1_mantissaOf hp w) rfl kl_X1_64 ks_X1_mantissaOf ki_X1 kc_X1_mantissaOf kd_X1_mantissaOf rfl (by decide) (by decide) (Nat.le_of_ble_eq_true rfl) (fun v hp' hv _ _ => ?_) (fun E hp' h _ _ => h.elim)
  obtain ⟨rfl, rfl⟩ := hv
  show qq_Go _ hp 0 0 4 [(0, .long w)] [.long (f_X1_mantissaOf w)] _ _
  refine qq_l2d dX1_asDouble_4 ?_
  refine qq_dstore_n (loc' := [(0, .long w), (2, .double (FP.l2d (f_X1_mantissaOf w)))]) dX1_asDouble_5 rfl [1, 0] (Nat.le_of_ble_eq_true rfl) rfl ?_
  refine qq_lload_n dX1_asDouble_6 rfl 0 rfl ?_
  refine qq_callS (bc := 0) (bs := 0) (mc := 0) (ms := 0) (as := [.long w]) (rest := []) dX1_asDouble_7 (mt_X1_exponentOf hp w) rfl kl_X1_60 ks_X1_exponentOf ki_X1 kc_X1_exponentOf kd_X1_exponentOf rfl (by decide) (by decide) (Nat.le_of_ble_eq_true rfl) (fun v hp' hv _ _ => ?_) (fun E hp' h _ _ => h.elim)
  obtain ⟨rfl, rfl⟩ := hv
  show qq_Go _ hp 0 0 10 [(0, .long w), (2, .double (FP.l2d (f_X1_mantissaOf w)))] [.int (f_X1_exponentOf w)] _ _
  refine qq_sipush (v := 1075) dX1_asDouble_10 (by decide) ?_
  refine qq_isub dX1_asDouble_13 ?_
  refine qq_istore (loc' := [(0, .long w), (2, .double (FP.l2d (f_X1_mantissaOf w))), (4, .int ((f_X1_exponentOf w) - 1075))]) dX1_asDouble_14 [1, 2, 0] (Nat.le_of_ble_eq_true rfl) rfl ?_
  refine qq_iconst (v := 0) dX1_asDouble_16 (by decide) ?_
  refine qq_istore (loc' := [(0, .long w), (2, .double (FP.l2d (f_X1_mantissaOf w))), (4, .int ((f_X1_exponentOf w) - 1075)), (5, .int 0)]) dX1_asDouble_17 [1, 2, 3, 0] (Nat.le_of_ble_eq_true rfl) rfl ?_
  refine lq_asD_19 hp w _ 20 _ 0 d hd (fun i' => ?_)
  refine qq_iconst (v := 0) dX1_asDouble_38 (by decide) ?_
  refine qq_istore (loc' := [(0, .long w), (2, .double d), (4, .int (f_X1_exponentOf w - 1075)), (5, .int 0)]) dX1_asDouble_39 [1, 2, 3, 0] (Nat.le_of_ble_eq_true rfl) rfl ?_
  refine lq_asD_41 hp w _ 130 d 0 r hr (fun i' => ?_)
  refine qq_dload_n dX1_asDouble_61 rfl 1 rfl ?_
  exact qq_dret dX1_asDouble_62 rfl ⟨rfl, rfl⟩
theorem mt_X1_stepsFromOne (hp : qq_H) (x r : UInt64) (h : f_sfo x = some r) : qq_Mt mX1_stepsFromOne [.double x] hp 0 0 (fun v hp' => v = some (.double r) ∧ hp = hp') (fun _ _ => False) := by
  refine qq_met pn_X1 (Nat.le_of_ble_eq_true rfl) (Nat.le_of_ble_eq_true rfl) kc_X1_stepsFromOne ?_
  show qq_Go _ hp 0 0 0 [(0, .double x)] [] _ _
  unfold f_sfo at h
  by_cases z1 : okd (FP.dsub x FP.dconst1) = true
  · rw [if_pos z1] at h
    refine qq_dload_n dX1_stepsFromOne_0 rfl 0 rfl ?_
    refine qq_dconst1 dX1_stepsFromOne_1 ?_
    refine qq_dsub dX1_stepsFromOne_2 (okd_n z1) ?_
    refine qq_dstore_n (loc' := [(0, .double x), (2, .double (FP.dsub x FP.dconst1))]) dX1_stepsFromOne_3 rfl [1, 0] (Nat.le_of_ble_eq_true rfl) rfl ?_
    refine qq_dload_n dX1_stepsFromOne_4 rfl 1 rfl ?_
    refine qq_dconst0 dX1_stepsFromOne_5 ?_
    refine qq_dcmp dX1_stepsFromOne_6 ?_
    refine qq_if_lt (tgt := 18) dX1_stepsFromOne_7 (by decide) (fun zc => ?_) (fun zc => ?_)
    · rw [if_pos zc] at h
      by_cases z2 : okd (FP.dmul (FP.dneg (FP.dsub x FP.dconst1)) 4845873199050653696) = true
      · rw [if_pos z2] at h
        refine qq_dload_n dX1_stepsFromOne_18 rfl 1 rfl ?_
        refine qq_dneg dX1_stepsFromOne_19 ?_
        refine qq_ldc2d (v := 4845873199050653696) dX1_stepsFromOne_20 kl_X1_75 ?_
        refine qq_dmul dX1_stepsFromOne_23 (okd_n z2) ?_
        cases h
        exact qq_dret dX1_stepsFromOne_24 rfl ⟨rfl, rfl⟩
      · rw [if_neg z2] at h
        exact nomatch h
    · rw [if_neg zc] at h
      by_cases z2 : okd (FP.dmul (FP.dsub x FP.dconst1) 4841369599423283200) = true
      · rw [if_pos z2] at h
        refine qq_dload_n dX1_stepsFromOne_10 rfl 1 rfl ?_
        refine qq_ldc2d (v := 4841369599423283200) dX1_stepsFromOne_11 kl_X1_73 ?_
        refine qq_dmul dX1_stepsFromOne_14 (okd_n z2) ?_
        refine qq_goto (tgt := 24) dX1_stepsFromOne_15 (by decide) ?_
        cases h
        exact qq_dret dX1_stepsFromOne_24 rfl ⟨rfl, rfl⟩
      · rw [if_neg z2] at h
        exact nomatch h
  · rw [if_neg z1] at h
    exact nomatch h
