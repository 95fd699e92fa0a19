set_option maxRecDepth 4000 in
theorem mt_coder (hp : qq_H) (s v : Nat) (h1 : hp.2 s = .inr (0, [.ref v, .int 0])) : qq_Mt mJ0_coder_7d493 [.ref s] hp 0 0 (fun r hp' => r = some (.int 0) ∧ hp = hp') (fun _ _ => False) := by
  refine qq_met (by decide +kernel) (Nat.le_of_ble_eq_true rfl) (Nat.le_of_ble_eq_true rfl) kc_J0_coder_7d493 ?_
  show qq_Go _ hp 0 0 0 [(0, .ref s)] [] _ _
  refine qq_gets (C := "java/lang/String") (nm := "COMPACT_STRINGS") (d := "Z") (v := .int 1) dJ0_coder_7d493_0 (by decide +kernel) kl_J0_38 ?_
  refine qq_if_eq (tgt := 13) dJ0_coder_7d493_3 (by decide) (fun z => absurd z (by decide)) (fun _ => ?_)
  refine qq_aload_n dJ0_coder_7d493_6 rfl 0 rfl ?_
  refine qq_get (C := RJ0) (T := TJ0) (N := 4) dJ0_coder_7d493_7 h1 rfl 1 (by decide) rfl ku_J0 kl_J0_15 ?_
  refine qq_goto (tgt := 14) dJ0_coder_7d493_10 (by decide) ?_
  exact qq_iret dJ0_coder_7d493_14 rfl rfl ⟨rfl, rfl⟩
set_option maxRecDepth 4000 in
theorem mt_slen (hp : qq_H) (s v L : Nat) (f : Nat → Int32) (hv : v < 80) (h1 : hp.2 s = .inr (0, [.ref v, .int 0])) (h2 : hp.2 v = .inl (3, L, .inl f)) : qq_Mt mJ0_length_8abf5 [.ref s] hp 0 0 (fun r hp' => r = some (.int (Int32.ofNat L)) ∧ hp = hp') (fun _ _ => False) := by
  refine qq_met (by decide +kernel) (Nat.le_of_ble_eq_true rfl) (Nat.le_of_ble_eq_true rfl) kc_J0_length_8abf5 ?_
  show qq_Go _ hp 0 0 0 [(0, .ref s)] [] _ _
  refine qq_aload_n dJ0_length_8abf5_0 rfl 0 rfl ?_
  refine qq_get (C := RJ0) (T := TJ0) (N := 4) dJ0_length_8abf5_1 h1 rfl 0 (by decide) rfl ku_J0 kl_J0_9 ?_
  refine qq_alen (v := Int32.ofNat L) dJ0_length_8abf5_4 h2 (Or.inl (by decide)) rfl ?_
  refine qq_aload_n dJ0_length_8abf5_5 rfl 0 rfl ?_
  refine qq_callVS (bc := 0) (bs := 0) (mc := 0) (ms := 0) (as := []) (rest := [.int (Int32.ofNat L)]) (o := s) (ci := 0) (N := 4) (T := TJ0) dJ0_length_8abf5_6 h1 rfl (mt_coder hp _ _ h1) rfl kl_J0_335 kn_J0_coder_7d493 ke_J0_coder_7d493 ki_J0 kc_J0_coder_7d493 kd_J0_coder_7d493 rfl (by decide) (by decide) (Nat.le_of_ble_eq_true rfl) (fun v H1 hv _ _ => ?_) (fun E hp' zx _ _ => zx.elim)
  obtain ⟨rfl, rfl⟩ := hv
  show qq_Go _ hp 0 0 9 [(0, .ref s)] [.int 0, .int (Int32.ofNat L)] _ _
  refine qq_ishr dJ0_length_8abf5_9 ?_
  rw [tx_shr]
  exact qq_iret dJ0_length_8abf5_10 rfl rfl ⟨rfl, rfl⟩
set_option maxRecDepth 4000 in
theorem mt_lat (hp : qq_H) (b w k : Nat) (m : Int32) (h3 : hp.2 b = .inr (1, [.ref w, .int 0, .int m, .int (Int32.ofNat k)])) : qq_Mt mJ5_isLatin1_aae02 [.ref b] hp 0 0 (fun r hp' => r = some (.int 1) ∧ hp = hp') (fun _ _ => False) := by
  refine qq_met (by decide +kernel) (Nat.le_of_ble_eq_true rfl) (Nat.le_of_ble_eq_true rfl) kc_J5_isLatin1_aae02 ?_
  show qq_Go _ hp 0 0 0 [(0, .ref b)] [] _ _
  refine qq_gets (C := "java/lang/String") (nm := "COMPACT_STRINGS") (d := "Z") (v := .int 1) dJ5_isLatin1_aae02_0 (by decide +kernel) kl_J5_18 ?_
  refine qq_if_eq (tgt := 17) dJ5_isLatin1_aae02_3 (by decide) (fun z => absurd z (by decide)) (fun _ => ?_)
  refine qq_aload_n dJ5_isLatin1_aae02_6 rfl 0 rfl ?_
  refine qq_get (C := RJ4) (T := TJ4) (N := 4) dJ5_isLatin1_aae02_7 h3 rfl 1 (by decide) rfl ku_J4 kl_J5_22 ?_
  refine qq_if_ne (tgt := 17) dJ5_isLatin1_aae02_10 (by decide) (fun z => absurd z (by decide)) (fun _ => ?_)
  refine qq_iconst (v := 1) dJ5_isLatin1_aae02_13 (by decide) ?_
  refine qq_goto (tgt := 18) dJ5_isLatin1_aae02_14 (by decide) ?_
  exact qq_iret dJ5_isLatin1_aae02_18 rfl rfl ⟨rfl, rfl⟩
set_option maxRecDepth 4000 in
theorem mt_ens (hp : qq_H) (b w k : Nat) (m n : Int32) (g : Nat → Int32) (hn : n - 16 ≤ 0) (h3 : hp.2 b = .inr (1, [.ref w, .int 0, .int m, .int (Int32.ofNat k)])) (h4 : hp.2 w = .inl (3, 16, .inl g)) : qq_Mt mJ5_ensureCapacityInternal_d00df [.ref b, .int n] hp 0 0 (fun r hp' => r = none ∧ hp = hp') (fun _ _ => False) := by
  refine qq_met (by decide +kernel) (Nat.le_of_ble_eq_true rfl) (Nat.le_of_ble_eq_true rfl) kc_J5_ensureCapacityInternal_d00df ?_
  show qq_Go _ hp 0 0 0 [(0, .ref b), (1, .int n)] [] _ _
  refine qq_aload_n dJ5_ensureCapacityInternal_d00df_0 rfl 0 rfl ?_
  refine qq_get (C := RJ4) (T := TJ4) (N := 4) dJ5_ensureCapacityInternal_d00df_1 h3 rfl 0 (by decide) rfl ku_J4 kl_J5_15 ?_
  refine qq_alen (v := 16) dJ5_ensureCapacityInternal_d00df_4 h4 (Or.inl (by decide)) rfl ?_
  refine qq_aload_n dJ5_ensureCapacityInternal_d00df_5 rfl 0 rfl ?_
  refine qq_get (C := RJ4) (T := TJ4) (N := 4) dJ5_ensureCapacityInternal_d00df_6 h3 rfl 1 (by decide) rfl ku_J4 kl_J5_22 ?_
  refine qq_ishr dJ5_ensureCapacityInternal_d00df_9 ?_
  rw [tx_shr]
  refine qq_istore_n (loc' := [(0, .ref b), (1, .int n), (2, .int 16)]) dJ5_ensureCapacityInternal_d00df_10 rfl [1, 2, 0] (Nat.le_of_ble_eq_true rfl) rfl ?_
  refine qq_iload_n dJ5_ensureCapacityInternal_d00df_11 rfl 1 rfl ?_
  refine qq_iload_n dJ5_ensureCapacityInternal_d00df_12 rfl 2 rfl ?_
  refine qq_isub dJ5_ensureCapacityInternal_d00df_13 ?_
  refine qq_if_le (tgt := 38) dJ5_ensureCapacityInternal_d00df_14 (by decide) (fun _ => ?_) (fun z => absurd hn z)
  exact qq_vret dJ5_ensureCapacityInternal_d00df_38 rfl ⟨rfl, rfl⟩
set_option maxRecDepth 4000 in
theorem mt_infl (hp : qq_H) (b w k s v : Nat) (m : Int32) (h3 : hp.2 b = .inr (1, [.ref w, .int 0, .int m, .int (Int32.ofNat k)])) (h1 : hp.2 s = .inr (0, [.ref v, .int 0])) : qq_Mt mJ5_inflateIfNeededFor_a7421 [.ref b, .ref s] hp 0 0 (fun r hp' => r = none ∧ hp = hp') (fun _ _ => False) := by
  refine qq_met (by decide +kernel) (Nat.le_of_ble_eq_true rfl) (Nat.le_of_ble_eq_true rfl) kc_J5_inflateIfNeededFor_a7421 ?_
  show qq_Go _ hp 0 0 0 [(0, .ref b), (1, .ref s)] [] _ _
  refine qq_gets (C := "java/lang/String") (nm := "COMPACT_STRINGS") (d := "Z") (v := .int 1) dJ5_inflateIfNeededFor_a7421_0 (by decide +kernel) kl_J5_18 ?_
  refine qq_if_eq (tgt := 21) dJ5_inflateIfNeededFor_a7421_3 (by decide) (fun z => absurd z (by decide)) (fun _ => ?_)
  refine qq_aload_n dJ5_inflateIfNeededFor_a7421_6 rfl 0 rfl ?_
  refine qq_get (C := RJ4) (T := TJ4) (N := 4) dJ5_inflateIfNeededFor_a7421_7 h3 rfl 1 (by decide) rfl ku_J4 kl_J5_22 ?_
  refine qq_aload_n dJ5_inflateIfNeededFor_a7421_10 rfl 1 rfl ?_
  refine qq_callVS (bc := 0) (bs := 0) (mc := 0) (ms := 0) (as := []) (rest := [.int 0]) (o := s) (ci := 0) (N := 4) (T := TJ0) dJ5_inflateIfNeededFor_a7421_11 h1 rfl (mt_coder hp _ _ h1) rfl kl_J5_40 kn_J0_coder_7d493 ke_J0_coder_7d493 ki_J0 kc_J0_coder_7d493 kd_J0_coder_7d493 rfl (by decide) (by decide) (Nat.le_of_ble_eq_true rfl) (fun v H1 hv _ _ => ?_) (fun E hp' zx _ _ => zx.elim)
  obtain ⟨rfl, rfl⟩ := hv
  show qq_Go _ hp 0 0 14 [(0, .ref b), (1, .ref s)] [.int 0, .int 0] _ _
  refine qq_icmp_eq (tgt := 21) dJ5_inflateIfNeededFor_a7421_14 (by decide) (fun _ => ?_) (fun z => absurd (by decide) z)
  exact qq_vret dJ5_inflateIfNeededFor_a7421_21 rfl ⟨rfl, rfl⟩
set_option maxRecDepth 4000 in
theorem mt_getb (hp : qq_H) (s v L : Nat) (f : Nat → Int32) (hs : s < 80) (hv : v < 80) (h1 : hp.2 s = .inr (0, [.ref v, .int 0])) (h2 : hp.2 v = .inl (3, L, .inl f)) (bf : byt f) (w k : Nat) (g : Nat → Int32) (bg : byt g) (hw : 80 ≤ w) (hk : k + L ≤ 16) (h4 : hp.2 w = .inl (3, 16, .inl g)) : qq_Mt mJ0_getBytes_840e7 [.ref s, .ref w, .int (Int32.ofNat k), .int 0] hp 0 0 (fun r hp' => r = none ∧ (∃ g', hp'.2 w = .inl (3, 16, .inl g') ∧ byt g') ∧ hp'.1 = hp.1 ∧ ∀ j : Nat, j ≠ w → hp'.2 j = hp.2 j) (fun _ _ => False) := by
  refine qq_met (by decide +kernel) (Nat.le_of_ble_eq_true rfl) (Nat.le_of_ble_eq_true rfl) kc_J0_getBytes_840e7 ?_
  show qq_Go _ hp 0 0 0 [(0, .ref s), (1, .ref w), (2, .int (Int32.ofNat k)), (3, .int 0)] [] _ _
  refine qq_aload_n dJ0_getBytes_840e7_0 rfl 0 rfl ?_
  refine qq_callVS (bc := 0) (bs := 0) (mc := 0) (ms := 0) (as := []) (rest := []) (o := s) (ci := 0) (N := 4) (T := TJ0) dJ0_getBytes_840e7_1 h1 rfl (mt_coder hp _ _ h1) rfl kl_J0_335 kn_J0_coder_7d493 ke_J0_coder_7d493 ki_J0 kc_J0_coder_7d493 kd_J0_coder_7d493 rfl (by decide) (by decide) (Nat.le_of_ble_eq_true rfl) (fun v H1 hv _ _ => ?_) (fun E hp' zx _ _ => zx.elim)
  obtain ⟨rfl, rfl⟩ := hv
  show qq_Go _ hp 0 0 4 [(0, .ref s), (1, .ref w), (2, .int (Int32.ofNat k)), (3, .int 0)] [.int 0] _ _
  refine qq_iload_n dJ0_getBytes_840e7_4 rfl 3 rfl ?_
  refine qq_icmp_ne (tgt := 28) dJ0_getBytes_840e7_5 (by decide) (fun z => absurd z (by decide)) (fun _ => ?_)
  refine qq_aload_n dJ0_getBytes_840e7_8 rfl 0 rfl ?_
  refine qq_get (C := RJ0) (T := TJ0) (N := 4) dJ0_getBytes_840e7_9 h1 rfl 0 (by decide) rfl ku_J0 kl_J0_9 ?_
  refine qq_iconst (v := 0) dJ0_getBytes_840e7_12 (by decide) ?_
  refine qq_aload_n dJ0_getBytes_840e7_13 rfl 1 rfl ?_
  refine qq_iload_n dJ0_getBytes_840e7_14 rfl 2 rfl ?_
  refine qq_iload_n dJ0_getBytes_840e7_15 rfl 3 rfl ?_
  refine qq_ishl dJ0_getBytes_840e7_16 ?_
  rw [tx_shl]
  refine qq_aload_n dJ0_getBytes_840e7_17 rfl 0 rfl ?_
  refine qq_get (C := RJ0) (T := TJ0) (N := 4) dJ0_getBytes_840e7_18 h1 rfl 0 (by decide) rfl ku_J0 kl_J0_9 ?_
  refine qq_alen (v := Int32.ofNat L) dJ0_getBytes_840e7_21 h2 (Or.inl (by decide)) rfl ?_
  refine qq_cpy dJ0_getBytes_840e7_22 h2 h4 (show 80 ≤ _ by omega) kl_J0_212 kz_nat kz_st ki_J10 (by decide) (tx_nn (by omega)) (tx_nn (by omega)) (tx_h4 (by omega)) (tx_h5 hk) bf (Nat.le_of_ble_eq_true rfl) ?_
  obtain ⟨H2, he2⟩ : ∃ h : qq_H, (hp.1, va_up hp.2 w (.inl (3, 16, .inl (va_cpy f g (0 : Int32).toNatClampNeg (Int32.ofNat k).toNatClampNeg (Int32.ofNat L).toNatClampNeg)))) = h := ⟨_, rfl⟩
  refine qq_hp (hp2 := H2) he2 ?_
  have zk2 : ∀ j : Nat, j ≠ w → H2.2 j = hp.2 j := fun j d0 => by rw [← he2]; exact up_o (by omega) rfl
  have zs2 : H2.1 = hp.1 + 0 := by rw [← he2]; show hp.1 = _; omega
  have q2_0 : H2.2 s = .inr (0, [.ref v, .int 0]) := (zk2 s (by omega)).trans h1
  have q2_1 : H2.2 v = .inl (3, L, .inl f) := (zk2 v (by omega)).trans h2
  have q2_2 : H2.2 w = .inl (3, 16, .inl (va_cpy f g (0 : Int32).toNatClampNeg (Int32.ofNat k).toNatClampNeg (Int32.ofNat L).toNatClampNeg)) := by rw [← he2]; exact up_p
  have zf2 : ∀ j : Nat, j ≠ w → H2.2 j = hp.2 j := fun j e0 => (zk2 j (by omega)).trans rfl
  obtain ⟨g2, hg2⟩ : ∃ gz : Nat → Int32, va_cpy f g (0 : Int32).toNatClampNeg (Int32.ofNat k).toNatClampNeg (Int32.ofNat L).toNatClampNeg = gz := ⟨_, rfl⟩
  have bg2 : byt g2 := by rw [← hg2]; exact byt_cpy bf bg _ _ _
  rw [hg2] at q2_2
  refine qq_goto (tgt := 43) dJ0_getBytes_840e7_25 (by decide) ?_
  exact qq_vret dJ0_getBytes_840e7_43 rfl ⟨rfl, ⟨_, q2_2, bg2⟩, zs2, zf2⟩
set_option maxRecDepth 4000 in
theorem mt_putat (hp : qq_H) (s v L : Nat) (f : Nat → Int32) (hs : s < 80) (hv : v < 80) (h1 : hp.2 s = .inr (0, [.ref v, .int 0])) (h2 : hp.2 v = .inl (3, L, .inl f)) (bf : byt f) (b w k : Nat) (m : Int32) (g : Nat → Int32) (bg : byt g) (hb : 80 ≤ b) (hw : 80 ≤ w) (hne : b ≠ w) (h3 : hp.2 b = .inr (1, [.ref w, .int 0, .int m, .int (Int32.ofNat k)])) (h4 : hp.2 w = .inl (3, 16, .inl g)) (hk : k + L ≤ 16) : qq_Mt mJ5_putStringAt_47b60 [.ref b, .int (Int32.ofNat k), .ref s] hp 0 0 (fun r hp' => r = none ∧ (∃ g', hp'.2 w = .inl (3, 16, .inl g') ∧ byt g') ∧ hp'.1 = hp.1 ∧ ∀ j : Nat, j ≠ w → hp'.2 j = hp.2 j) (fun _ _ => False) := by
  refine qq_met (by decide +kernel) (Nat.le_of_ble_eq_true rfl) (Nat.le_of_ble_eq_true rfl) kc_J5_putStringAt_47b60 ?_
  show qq_Go _ hp 0 0 0 [(0, .ref b), (1, .int (Int32.ofNat k)), (2, .ref s)] [] _ _
  refine qq_aload_n dJ5_putStringAt_47b60_0 rfl 0 rfl ?_
  refine qq_aload_n dJ5_putStringAt_47b60_1 rfl 2 rfl ?_
  refine qq_callU (bc := 0) (bs := 0) (mc := 0) (ms := 0) (as := [.ref s]) (rest := []) (o := b) (ci := 1) (N := 4) (T := TJ4) (C := RJ4) yJ5_inflateIfNeededFor_a7421 dJ5_putStringAt_47b60_2 h3 rfl (mt_infl hp _ _ _ _ _ _ h3 h1) rfl rfl kl_J5_397 km_J5_inflateIfNeededFor_a7421 (List.mem_append_left _ (by decide +kernel)) kn_J5_inflateIfNeededFor_a7421 ki_J5 kc_J5_inflateIfNeededFor_a7421 kd_J5_inflateIfNeededFor_a7421 kd_J5_inflateIfNeededFor_a7421 rfl (by decide) (by decide) (Nat.le_of_ble_eq_true rfl) (fun v H1 hv _ _ => ?_) (fun E hp' zx _ _ => zx.elim)
  obtain ⟨rfl, rfl⟩ := hv
  show qq_Go _ hp 0 0 5 [(0, .ref b), (1, .int (Int32.ofNat k)), (2, .ref s)] [] _ _
  refine qq_aload_n dJ5_putStringAt_47b60_5 rfl 2 rfl ?_
  refine qq_aload_n dJ5_putStringAt_47b60_6 rfl 0 rfl ?_
  refine qq_get (C := RJ4) (T := TJ4) (N := 4) dJ5_putStringAt_47b60_7 h3 rfl 0 (by decide) rfl ku_J4 kl_J5_15 ?_
  refine qq_iload_n dJ5_putStringAt_47b60_10 rfl 1 rfl ?_
  refine qq_aload_n dJ5_putStringAt_47b60_11 rfl 0 rfl ?_
  refine qq_get (C := RJ4) (T := TJ4) (N := 4) dJ5_putStringAt_47b60_12 h3 rfl 1 (by decide) rfl ku_J4 kl_J5_22 ?_
  refine qq_callVS (bc := 0) (bs := 0) (mc := 0) (ms := 0) (as := [.ref w, .int (Int32.ofNat k), .int 0]) (rest := []) (o := s) (ci := 0) (N := 4) (T := TJ0) dJ5_putStringAt_47b60_15 h1 rfl (mt_getb hp _ _ _ _ (by omega) (by omega) h1 h2 bf _ _ _ bg (by omega) (by omega) h4) rfl kl_J5_399 kn_J0_getBytes_840e7 ke_J0_getBytes_840e7 ki_J0 kc_J0_getBytes_840e7 kd_J0_getBytes_840e7 rfl (by decide) (by decide) (Nat.le_of_ble_eq_true rfl) (fun v H2 hv _ _ => ?_) (fun E hp' zx _ _ => zx.elim)
  obtain ⟨rfl, ⟨g2, qw2, bg2⟩, zz2, zk2⟩ := hv
  have zs2 : H2.1 = hp.1 + 0 := by omega
  have q2_0 : H2.2 s = .inr (0, [.ref v, .int 0]) := (zk2 s (by omega)).trans h1
  have q2_1 : H2.2 v = .inl (3, L, .inl f) := (zk2 v (by omega)).trans h2
  have q2_2 : H2.2 b = .inr (1, [.ref w, .int 0, .int m, .int (Int32.ofNat k)]) := (zk2 b (by omega)).trans h3
  have zf2 : ∀ j : Nat, j ≠ w → H2.2 j = hp.2 j := fun j e0 => (zk2 j (by omega)).trans rfl
  show qq_Go _ H2 0 0 18 [(0, .ref b), (1, .int (Int32.ofNat k)), (2, .ref s)] [] _ _
  exact qq_vret dJ5_putStringAt_47b60_18 rfl ⟨rfl, ⟨_, qw2, bg2⟩, zs2, zf2⟩
set_option maxRecDepth 4000 in
theorem mt_aps5 (hp : qq_H) (s v L : Nat) (f : Nat → Int32) (hs : s < 80) (hv : v < 80) (h1 : hp.2 s = .inr (0, [.ref v, .int 0])) (h2 : hp.2 v = .inl (3, L, .inl f)) (bf : byt f) (b w k : Nat) (m : Int32) (g : Nat → Int32) (bg : byt g) (hb : 80 ≤ b) (hw : 80 ≤ w) (hne : b ≠ w) (h3 : hp.2 b = .inr (1, [.ref w, .int 0, .int m, .int (Int32.ofNat k)])) (h4 : hp.2 w = .inl (3, 16, .inl g)) (hk : k + L ≤ 16) : qq_Mt mJ5_append_cf1ce [.ref b, .ref s] hp 0 0 (fun r hp' => r = some (.ref b) ∧ sbd b w m (k + L) hp' ∧ sfr b w hp hp') (fun _ _ => False) := by
  refine qq_met (by decide +kernel) (Nat.le_of_ble_eq_true rfl) (Nat.le_of_ble_eq_true rfl) kc_J5_append_cf1ce ?_
  show qq_Go _ hp 0 0 0 [(0, .ref b), (1, .ref s)] [] _ _
  refine qq_aload_n dJ5_append_cf1ce_0 rfl 1 rfl ?_
  refine qq_ifnonnull (tgt := 9) dJ5_append_cf1ce_1 (by decide) ?_
  refine qq_aload_n dJ5_append_cf1ce_9 rfl 1 rfl ?_
  refine qq_callVS (bc := 0) (bs := 0) (mc := 0) (ms := 0) (as := []) (rest := []) (o := s) (ci := 0) (N := 4) (T := TJ0) dJ5_append_cf1ce_10 h1 rfl (mt_slen hp _ _ _ _ (by omega) h1 h2) rfl kl_J5_32 kn_J0_length_8abf5 ke_J0_length_8abf5 ki_J0 kc_J0_length_8abf5 kd_J0_length_8abf5 rfl (by decide) (by decide) (Nat.le_of_ble_eq_true rfl) (fun v H1 hv _ _ => ?_) (fun E hp' zx _ _ => zx.elim)
  obtain ⟨rfl, rfl⟩ := hv
  show qq_Go _ hp 0 0 13 [(0, .ref b), (1, .ref s)] [.int (Int32.ofNat L)] _ _
  refine qq_istore_n (loc' := [(0, .ref b), (1, .ref s), (2, .int (Int32.ofNat L))]) dJ5_append_cf1ce_13 rfl [1, 2, 0] (Nat.le_of_ble_eq_true rfl) rfl ?_
  refine qq_aload_n dJ5_append_cf1ce_14 rfl 0 rfl ?_
  refine qq_aload_n dJ5_append_cf1ce_15 rfl 0 rfl ?_
  refine qq_get (C := RJ4) (T := TJ4) (N := 4) dJ5_append_cf1ce_16 h3 rfl 3 (by decide) rfl ku_J4 kl_J5_79 ?_
  refine qq_iload_n dJ5_append_cf1ce_19 rfl 2 rfl ?_
  refine qq_iadd dJ5_append_cf1ce_20 ?_
  rw [tx_add]
  refine qq_callU (bc := 0) (bs := 0) (mc := 0) (ms := 0) (as := [.int (Int32.ofNat (k + L))]) (rest := []) (o := b) (ci := 1) (N := 4) (T := TJ4) (C := RJ4) yJ5_ensureCapacityInternal_d00df dJ5_append_cf1ce_21 h3 rfl (mt_ens hp _ _ _ _ _ _ (tx_le (by omega)) h3 h4) rfl rfl kl_J5_100 km_J5_ensureCapacityInternal_d00df (List.mem_append_left _ (by decide +kernel)) kn_J5_ensureCapacityInternal_d00df ki_J5 kc_J5_ensureCapacityInternal_d00df kd_J5_ensureCapacityInternal_d00df kd_J5_ensureCapacityInternal_d00df rfl (by decide) (by decide) (Nat.le_of_ble_eq_true rfl) (fun v H2 hv _ _ => ?_) (fun E hp' zx _ _ => zx.elim)
  obtain ⟨rfl, rfl⟩ := hv
  show qq_Go _ hp 0 0 24 [(0, .ref b), (1, .ref s), (2, .int (Int32.ofNat L))] [] _ _
  refine qq_aload_n dJ5_append_cf1ce_24 rfl 0 rfl ?_
  refine qq_aload_n dJ5_append_cf1ce_25 rfl 0 rfl ?_
  refine qq_get (C := RJ4) (T := TJ4) (N := 4) dJ5_append_cf1ce_26 h3 rfl 3 (by decide) rfl ku_J4 kl_J5_79 ?_
  refine qq_aload_n dJ5_append_cf1ce_29 rfl 1 rfl ?_
  refine qq_callU (bc := 0) (bs := 0) (mc := 0) (ms := 0) (as := [.int (Int32.ofNat k), .ref s]) (rest := []) (o := b) (ci := 1) (N := 4) (T := TJ4) (C := RJ4) yJ5_putStringAt_47b60 dJ5_append_cf1ce_30 h3 rfl (mt_putat hp _ _ _ _ (by omega) (by omega) h1 h2 bf _ _ _ _ _ bg (by omega) (by omega) (by omega) h3 h4 (by omega)) rfl rfl kl_J5_208 km_J5_putStringAt_47b60 (List.mem_append_left _ (by decide +kernel)) kn_J5_putStringAt_47b60 ki_J5 kc_J5_putStringAt_47b60 kd_J5_putStringAt_47b60 kd_J5_putStringAt_47b60 rfl (by decide) (by decide) (Nat.le_of_ble_eq_true rfl) (fun v H3 hv _ _ => ?_) (fun E hp' zx _ _ => zx.elim)
  obtain ⟨rfl, ⟨g3, qw3, bg3⟩, zz3, zk3⟩ := hv
  have zs3 : H3.1 = hp.1 + 0 := by omega
  have q3_0 : H3.2 s = .inr (0, [.ref v, .int 0]) := (zk3 s (by omega)).trans h1
  have q3_1 : H3.2 v = .inl (3, L, .inl f) := (zk3 v (by omega)).trans h2
  have q3_2 : H3.2 b = .inr (1, [.ref w, .int 0, .int m, .int (Int32.ofNat k)]) := (zk3 b (by omega)).trans h3
  have zf3 : ∀ j : Nat, j ≠ b → j ≠ w → H3.2 j = hp.2 j := fun j e0 e1 => (zk3 j (by omega)).trans rfl
  show qq_Go _ H3 0 0 33 [(0, .ref b), (1, .ref s), (2, .int (Int32.ofNat L))] [] _ _
  refine qq_aload_n dJ5_append_cf1ce_33 rfl 0 rfl ?_
  refine qq_dup dJ5_append_cf1ce_34 rfl ?_
  refine qq_get (C := RJ4) (T := TJ4) (N := 4) dJ5_append_cf1ce_35 q3_2 rfl 3 (by decide) rfl ku_J4 kl_J5_79 ?_
  refine qq_iload_n dJ5_append_cf1ce_38 rfl 2 rfl ?_
  refine qq_iadd dJ5_append_cf1ce_39 ?_
  rw [tx_add]
  refine qq_put (C := RJ4) (T := TJ4) (N := 4) (ty := .int) dJ5_append_cf1ce_40 q3_2 (show 80 ≤ _ by omega) rfl 3 (by decide) (Nat.le_of_ble_eq_true rfl) ku_J4 kl_J5_79 tyJ4 tyJ4_ok nmJ4 rfl (by decide +kernel) (fun _ => rfl) (fun _ => rfl) ?_
  obtain ⟨H4, he4⟩ : ∃ h : qq_H, (H3.1, va_up H3.2 b (.inr (1, ([.ref w, .int 0, .int m, .int (Int32.ofNat k)] : List Value).set 3 (.int (Int32.ofNat (k + L)))))) = h := ⟨_, rfl⟩
  refine qq_hp (hp2 := H4) he4 ?_
  have zk4 : ∀ j : Nat, j ≠ b → H4.2 j = H3.2 j := fun j d0 => by rw [← he4]; exact up_o (by omega) rfl
  have zs4 : H4.1 = hp.1 + 0 := by rw [← he4]; show H3.1 = _; omega
  have q4_0 : H4.2 s = .inr (0, [.ref v, .int 0]) := (zk4 s (by omega)).trans q3_0
  have q4_1 : H4.2 v = .inl (3, L, .inl f) := (zk4 v (by omega)).trans q3_1
  have q4_2 : H4.2 w = .inl (3, 16, .inl g3) := (zk4 w (by omega)).trans qw3
  have q4_3 : H4.2 b = .inr (1, [.ref w, .int 0, .int m, .int (Int32.ofNat (k + L))]) := by rw [← he4]; exact up_p
  have zf4 : ∀ j : Nat, j ≠ b → j ≠ w → H4.2 j = hp.2 j := fun j e0 e1 => (zk4 j (by omega)).trans (zf3 j e0 e1)
  refine qq_aload_n dJ5_append_cf1ce_43 rfl 0 rfl ?_
  exact qq_aret dJ5_append_cf1ce_44 rfl (Or.inl ⟨_, rfl⟩) (Or.inr ⟨_, rfl⟩) ⟨rfl, ⟨q4_3, _, q4_2, bg3⟩, zs4, zf4⟩
set_option maxRecDepth 4000 in
theorem mt_aps (hp : qq_H) (s v L : Nat) (f : Nat → Int32) (hs : s < 80) (hv : v < 80) (h1 : hp.2 s = .inr (0, [.ref v, .int 0])) (h2 : hp.2 v = .inl (3, L, .inl f)) (bf : byt f) (b w k : Nat) (m : Int32) (g : Nat → Int32) (bg : byt g) (hb : 80 ≤ b) (hw : 80 ≤ w) (hne : b ≠ w) (h3 : hp.2 b = .inr (1, [.ref w, .int 0, .int m, .int (Int32.ofNat k)])) (h4 : hp.2 w = .inl (3, 16, .inl g)) (hk : k + L ≤ 16) : qq_Mt mJ4_append_15ec4 [.ref b, .ref s] hp 0 0 (fun r hp' => r = some (.ref b) ∧ sbd b w m (k + L) hp' ∧ sfr b w hp hp') (fun _ _ => False) := by
  refine qq_met (by decide +kernel) (Nat.le_of_ble_eq_true rfl) (Nat.le_of_ble_eq_true rfl) kc_J4_append_15ec4 ?_
  show qq_Go _ hp 0 0 0 [(0, .ref b), (1, .ref s)] [] _ _
  refine qq_aload_n dJ4_append_15ec4_0 rfl 0 rfl ?_
  refine qq_aload_n dJ4_append_15ec4_1 rfl 1 rfl ?_
  refine qq_callSU (bc := 0) (bs := 0) (mc := 0) (ms := 0) (as := [.ref s]) (rest := []) (o := b) (ci := 1) dJ4_append_15ec4_2 h3 rfl (mt_aps5 hp _ _ _ _ (by omega) (by omega) h1 h2 bf _ _ _ _ _ bg (by omega) (by omega) (by omega) h3 h4 (by omega)) rfl kl_J4_29 km_J5_append_cf1ce kp_J4 kn_J5_append_cf1ce ki_J5 kc_J5_append_cf1ce (by decide) kd_J5_append_cf1ce rfl (by decide) (by decide) (Nat.le_of_ble_eq_true rfl) (fun v H1 hv _ _ => ?_) (fun E hp' zx _ _ => zx.elim)
  obtain ⟨rfl, ⟨qb1, g1, qw1, bg1⟩, zz1, zk1⟩ := hv
  have zs1 : H1.1 = hp.1 + 0 := by omega
  have q1_0 : H1.2 s = .inr (0, [.ref v, .int 0]) := (zk1 s (by omega) (by omega)).trans h1
  have q1_1 : H1.2 v = .inl (3, L, .inl f) := (zk1 v (by omega) (by omega)).trans h2
  have zf1 : ∀ j : Nat, j ≠ b → j ≠ w → H1.2 j = hp.2 j := fun j e0 e1 => (zk1 j (by omega) (by omega)).trans rfl
  show qq_Go _ H1 0 0 5 [(0, .ref b), (1, .ref s)] [.ref b] _ _
  refine qq_pop dJ4_append_15ec4_5 rfl ?_
  refine qq_aload_n dJ4_append_15ec4_6 rfl 0 rfl ?_
  exact qq_aret dJ4_append_15ec4_7 rfl (Or.inl ⟨_, rfl⟩) (Or.inr ⟨_, rfl⟩) ⟨rfl, ⟨qb1, _, qw1, bg1⟩, zs1, zf1⟩
set_option maxRecDepth 4000 in
theorem mt_can (hp : qq_H) (x9 : Int32) (hx : ¬ 255 < x9) : qq_Mt mJ1_canEncode_fc78d [.int x9] hp 0 0 (fun r hp' => r = some (.int 1) ∧ hp = hp') (fun _ _ => False) := by
  refine qq_met (by decide +kernel) (Nat.le_of_ble_eq_true rfl) (Nat.le_of_ble_eq_true rfl) kc_J1_canEncode_fc78d ?_
  show qq_Go _ hp 0 0 0 [(0, .int x9)] [] _ _
  refine qq_iload_n dJ1_canEncode_fc78d_0 rfl 0 rfl ?_
  refine qq_sipush (v := 255) dJ1_canEncode_fc78d_1 (by decide) ?_
  refine qq_icmp_gt (tgt := 11) dJ1_canEncode_fc78d_4 (by decide) (fun z => absurd z hx) (fun _ => ?_)
  refine qq_iconst (v := 1) dJ1_canEncode_fc78d_7 (by decide) ?_
  refine qq_goto (tgt := 12) dJ1_canEncode_fc78d_8 (by decide) ?_
  exact qq_iret dJ1_canEncode_fc78d_12 rfl rfl ⟨rfl, rfl⟩
set_option maxRecDepth 4000 in
theorem mt_apc5 (hp : qq_H) (b w k : Nat) (m : Int32) (g : Nat → Int32) (bg : byt g) (hb : 80 ≤ b) (hw : 80 ≤ w) (hne : b ≠ w) (h3 : hp.2 b = .inr (1, [.ref w, .int 0, .int m, .int (Int32.ofNat k)])) (h4 : hp.2 w = .inl (3, 16, .inl g)) (x9 : Int32) (hx : ¬ 255 < x9) (hk : k + 1 ≤ 16) : qq_Mt mJ5_append_3fe6f [.ref b, .int x9] hp 0 0 (fun r hp' => r = some (.ref b) ∧ sbd b w m (k + 1) hp' ∧ sfr b w hp hp') (fun _ _ => False) := by
  refine qq_met (by decide +kernel) (Nat.le_of_ble_eq_true rfl) (Nat.le_of_ble_eq_true rfl) kc_J5_append_3fe6f ?_
  show qq_Go _ hp 0 0 0 [(0, .ref b), (1, .int x9)] [] _ _
  refine qq_aload_n dJ5_append_3fe6f_0 rfl 0 rfl ?_
  refine qq_aload_n dJ5_append_3fe6f_1 rfl 0 rfl ?_
  refine qq_get (C := RJ4) (T := TJ4) (N := 4) dJ5_append_3fe6f_2 h3 rfl 3 (by decide) rfl ku_J4 kl_J5_79 ?_
  refine qq_iconst (v := 1) dJ5_append_3fe6f_5 (by decide) ?_
  refine qq_iadd dJ5_append_3fe6f_6 ?_
  rw [tx_add1]
  refine qq_callU (bc := 0) (bs := 0) (mc := 0) (ms := 0) (as := [.int (Int32.ofNat (k + 1))]) (rest := []) (o := b) (ci := 1) (N := 4) (T := TJ4) (C := RJ4) yJ5_ensureCapacityInternal_d00df dJ5_append_3fe6f_7 h3 rfl (mt_ens hp _ _ _ _ _ _ (tx_le (by omega)) h3 h4) rfl rfl kl_J5_100 km_J5_ensureCapacityInternal_d00df (List.mem_append_left _ (by decide +kernel)) kn_J5_ensureCapacityInternal_d00df ki_J5 kc_J5_ensureCapacityInternal_d00df kd_J5_ensureCapacityInternal_d00df kd_J5_ensureCapacityInternal_d00df rfl (by decide) (by decide) (Nat.le_of_ble_eq_true rfl) (fun v H1 hv _ _ => ?_) (fun E hp' zx _ _ => zx.elim)
  obtain ⟨rfl, rfl⟩ := hv
  show qq_Go _ hp 0 0 10 [(0, .ref b), (1, .int x9)] [] _ _
  refine qq_aload_n dJ5_append_3fe6f_10 rfl 0 rfl ?_
  refine qq_callU (bc := 0) (bs := 0) (mc := 0) (ms := 0) (as := []) (rest := []) (o := b) (ci := 1) (N := 4) (T := TJ4) (C := RJ4) yJ5_isLatin1_aae02 dJ5_append_3fe6f_11 h3 rfl (mt_lat hp _ _ _ _ h3) rfl rfl kl_J5_83 km_J5_isLatin1_aae02 kq_J5_isLatin1_aae02 kn_J5_isLatin1_aae02 ki_J5 kc_J5_isLatin1_aae02 kd_J5_isLatin1_aae02 kd_J5_isLatin1_aae02 rfl (by decide) (by decide) (Nat.le_of_ble_eq_true rfl) (fun v H2 hv _ _ => ?_) (fun E hp' zx _ _ => zx.elim)
  obtain ⟨rfl, rfl⟩ := hv
  show qq_Go _ hp 0 0 14 [(0, .ref b), (1, .int x9)] [.int 1] _ _
  refine qq_if_eq (tgt := 45) dJ5_append_3fe6f_14 (by decide) (fun z => absurd z (by decide)) (fun _ => ?_)
  refine qq_iload_n dJ5_append_3fe6f_17 rfl 1 rfl ?_
  refine qq_callS (bc := 0) (bs := 0) (mc := 0) (ms := 0) (as := [.int x9]) (rest := []) dJ5_append_3fe6f_18 (mt_can hp _ hx) rfl kl_J5_191 ks_J1_canEncode_fc78d ki_J1 kc_J1_canEncode_fc78d kd_J1_canEncode_fc78d rfl (by decide) (by decide) (Nat.le_of_ble_eq_true rfl) (fun v H3 hv _ _ => ?_) (fun E hp' zx _ _ => zx.elim)
  obtain ⟨rfl, rfl⟩ := hv
  show qq_Go _ hp 0 0 21 [(0, .ref b), (1, .int x9)] [.int 1] _ _
  refine qq_if_eq (tgt := 45) dJ5_append_3fe6f_21 (by decide) (fun z => absurd z (by decide)) (fun _ => ?_)
  refine qq_aload_n dJ5_append_3fe6f_24 rfl 0 rfl ?_
  refine qq_get (C := RJ4) (T := TJ4) (N := 4) dJ5_append_3fe6f_25 h3 rfl 0 (by decide) rfl ku_J4 kl_J5_15 ?_
  refine qq_aload_n dJ5_append_3fe6f_28 rfl 0 rfl ?_
  refine qq_dup dJ5_append_3fe6f_29 rfl ?_
  refine qq_get (C := RJ4) (T := TJ4) (N := 4) dJ5_append_3fe6f_30 h3 rfl 3 (by decide) rfl ku_J4 kl_J5_79 ?_
  refine qq_dup_x1 dJ5_append_3fe6f_33 rfl rfl ?_
  refine qq_iconst (v := 1) dJ5_append_3fe6f_34 (by decide) ?_
  refine qq_iadd dJ5_append_3fe6f_35 ?_
  rw [tx_add1]
  refine qq_put (C := RJ4) (T := TJ4) (N := 4) (ty := .int) dJ5_append_3fe6f_36 h3 (show 80 ≤ _ by omega) rfl 3 (by decide) (Nat.le_of_ble_eq_true rfl) ku_J4 kl_J5_79 tyJ4 tyJ4_ok nmJ4 rfl (by decide +kernel) (fun _ => rfl) (fun _ => rfl) ?_
  obtain ⟨H4, he4⟩ : ∃ h : qq_H, (hp.1, va_up hp.2 b (.inr (1, ([.ref w, .int 0, .int m, .int (Int32.ofNat k)] : List Value).set 3 (.int (Int32.ofNat (k + 1)))))) = h := ⟨_, rfl⟩
  refine qq_hp (hp2 := H4) he4 ?_
  have zk4 : ∀ j : Nat, j ≠ b → H4.2 j = hp.2 j := fun j d0 => by rw [← he4]; exact up_o (by omega) rfl
  have zs4 : H4.1 = hp.1 + 0 := by rw [← he4]; show hp.1 = _; omega
  have q4_0 : H4.2 w = .inl (3, 16, .inl g) := (zk4 w (by omega)).trans h4
  have q4_1 : H4.2 b = .inr (1, [.ref w, .int 0, .int m, .int (Int32.ofNat (k + 1))]) := by rw [← he4]; exact up_p
  have zf4 : ∀ j : Nat, j ≠ b → j ≠ w → H4.2 j = hp.2 j := fun j e0 e1 => (zk4 j (by omega)).trans rfl
  refine qq_iload_n dJ5_append_3fe6f_39 rfl 1 rfl ?_
  refine qq_i2b dJ5_append_3fe6f_40 ?_
  refine qq_bast dJ5_append_3fe6f_41 q4_0 (show 80 ≤ _ by omega) (tx_in (by omega) (by omega)) ?_
  obtain ⟨H5, he5⟩ : ∃ h : qq_H, (H4.1, va_up H4.2 w (.inl (3, 16, .inl (upd g (Int32.ofNat k).toNatClampNeg (vp_nar .byte x9.toInt8.toInt32))))) = h := ⟨_, rfl⟩
  refine qq_hp (hp2 := H5) he5 ?_
  have zk5 : ∀ j : Nat, j ≠ w → H5.2 j = H4.2 j := fun j d0 => by rw [← he5]; exact up_o (by omega) rfl
  have zs5 : H5.1 = hp.1 + 0 := by rw [← he5]; show H4.1 = _; omega
  have q5_0 : H5.2 b = .inr (1, [.ref w, .int 0, .int m, .int (Int32.ofNat (k + 1))]) := (zk5 b (by omega)).trans q4_1
  have q5_1 : H5.2 w = .inl (3, 16, .inl (upd g (Int32.ofNat k).toNatClampNeg (vp_nar .byte x9.toInt8.toInt32))) := by rw [← he5]; exact up_p
  have zf5 : ∀ j : Nat, j ≠ b → j ≠ w → H5.2 j = hp.2 j := fun j e0 e1 => (zk5 j (by omega)).trans (zf4 j e0 e1)
  obtain ⟨g5, hg5⟩ : ∃ gz : Nat → Int32, upd g (Int32.ofNat k).toNatClampNeg (vp_nar .byte x9.toInt8.toInt32) = gz := ⟨_, rfl⟩
  have bg5 : byt g5 := by rw [← hg5]; exact byt_u bg _ _
  rw [hg5] at q5_1
  refine qq_goto (tgt := 75) dJ5_append_3fe6f_42 (by decide) ?_
  refine qq_aload_n dJ5_append_3fe6f_75 rfl 0 rfl ?_
  exact qq_aret dJ5_append_3fe6f_76 rfl (Or.inl ⟨_, rfl⟩) (Or.inr ⟨_, rfl⟩) ⟨rfl, ⟨q5_0, _, q5_1, bg5⟩, zs5, zf5⟩
set_option maxRecDepth 4000 in
theorem mt_apc (hp : qq_H) (b w k : Nat) (m : Int32) (g : Nat → Int32) (bg : byt g) (hb : 80 ≤ b) (hw : 80 ≤ w) (hne : b ≠ w) (h3 : hp.2 b = .inr (1, [.ref w, .int 0, .int m, .int (Int32.ofNat k)])) (h4 : hp.2 w = .inl (3, 16, .inl g)) (x9 : Int32) (hx : ¬ 255 < x9) (hk : k + 1 ≤ 16) : qq_Mt mJ4_append_cf468 [.ref b, .int x9] hp 0 0 (fun r hp' => r = some (.ref b) ∧ sbd b w m (k + 1) hp' ∧ sfr b w hp hp') (fun _ _ => False) := by
  refine qq_met (by decide +kernel) (Nat.le_of_ble_eq_true rfl) (Nat.le_of_ble_eq_true rfl) kc_J4_append_cf468 ?_
  show qq_Go _ hp 0 0 0 [(0, .ref b), (1, .int x9)] [] _ _
  refine qq_aload_n dJ4_append_cf468_0 rfl 0 rfl ?_
  refine qq_iload_n dJ4_append_cf468_1 rfl 1 rfl ?_
  refine qq_callSU (bc := 0) (bs := 0) (mc := 0) (ms := 0) (as := [.int x9]) (rest := []) (o := b) (ci := 1) dJ4_append_cf468_2 h3 rfl (mt_apc5 hp _ _ _ _ _ bg (by omega) (by omega) (by omega) h3 h4 x9 hx (by omega)) rfl kl_J4_50 km_J5_append_3fe6f kp_J4 kn_J5_append_3fe6f ki_J5 kc_J5_append_3fe6f (by decide) kd_J5_append_3fe6f rfl (by decide) (by decide) (Nat.le_of_ble_eq_true rfl) (fun v H1 hv _ _ => ?_) (fun E hp' zx _ _ => zx.elim)
  obtain ⟨rfl, ⟨qb1, g1, qw1, bg1⟩, zz1, zk1⟩ := hv
  have zs1 : H1.1 = hp.1 + 0 := by omega
  have zf1 : ∀ j : Nat, j ≠ b → j ≠ w → H1.2 j = hp.2 j := fun j e0 e1 => (zk1 j (by omega) (by omega)).trans rfl
  show qq_Go _ H1 0 0 5 [(0, .ref b), (1, .int x9)] [.ref b] _ _
  refine qq_pop dJ4_append_cf468_5 rfl ?_
  refine qq_aload_n dJ4_append_cf468_6 rfl 0 rfl ?_
  exact qq_aret dJ4_append_cf468_7 rfl (Or.inl ⟨_, rfl⟩) (Or.inr ⟨_, rfl⟩) ⟨rfl, ⟨qb1, _, qw1, bg1⟩, zs1, zf1⟩
set_option maxRecDepth 4000 in
theorem mt_getc (hp : qq_H) (q : Int32) (hq : rq q) (e w : Nat) (g : Nat → Int32) (bg : byt g) (hw : 80 ≤ w) (he5 : 5 ≤ e) (he : e ≤ 16) (h7 : hp.2 7 = .inl (3, 100, .inl t_d1)) (h8 : hp.2 8 = .inl (3, 100, .inl t_d2)) (h4 : hp.2 w = .inl (3, 16, .inl g)) : qq_Mt mJ6_getChars_ba4f3 [.int q, .int (Int32.ofNat e), .ref w] hp 0 0 (fun r hp' => (∃ i, r = some (.int i)) ∧ (∃ g', hp'.2 w = .inl (3, 16, .inl g') ∧ byt g') ∧ hp'.1 = hp.1 ∧ ∀ j : Nat, j ≠ w → hp'.2 j = hp.2 j) (fun _ _ => False) := by
  refine qq_met (by decide +kernel) (Nat.le_of_ble_eq_true rfl) (Nat.le_of_ble_eq_true rfl) kc_J6_getChars_ba4f3 ?_
  show qq_Go _ hp 0 0 0 [(0, .int q), (1, .int (Int32.ofNat e)), (2, .ref w)] [] _ _
  refine qq_iload_n dJ6_getChars_ba4f3_0 rfl 1 rfl ?_
  refine qq_istore (loc' := [(0, .int q), (1, .int (Int32.ofNat e)), (2, .ref w), (5, .int (Int32.ofNat e))]) dJ6_getChars_ba4f3_1 [1, 2, 3, 0] (Nat.le_of_ble_eq_true rfl) rfl ?_
  refine qq_iload_n dJ6_getChars_ba4f3_3 rfl 0 rfl ?_
  refine qq_if_ge (tgt := 11) dJ6_getChars_ba4f3_4 (by decide) (fun zc1 => ?_) (fun zc1 => ?_)
  · refine qq_iconst (v := 0) dJ6_getChars_ba4f3_11 (by decide) ?_
    refine qq_istore (loc' := [(0, .int q), (1, .int (Int32.ofNat e)), (2, .ref w), (5, .int (Int32.ofNat e)), (6, .int 0)]) dJ6_getChars_ba4f3_12 [1, 2, 3, 4, 0] (Nat.le_of_ble_eq_true rfl) rfl ?_
    refine qq_iload dJ6_getChars_ba4f3_14 4 rfl ?_
    refine qq_if_ne (tgt := 22) dJ6_getChars_ba4f3_16 (by decide) (fun z => absurd z (by decide)) (fun _ => ?_)
    refine qq_iload_n dJ6_getChars_ba4f3_19 rfl 0 rfl ?_
    refine qq_ineg dJ6_getChars_ba4f3_20 ?_
    refine qq_istore_n (loc' := [(0, .int (-q)), (1, .int (Int32.ofNat e)), (2, .ref w), (5, .int (Int32.ofNat e)), (6, .int 0)]) dJ6_getChars_ba4f3_21 rfl [0, 1, 2, 3, 4] (Nat.le_of_ble_eq_true rfl) rfl ?_
    refine qq_iload_n dJ6_getChars_ba4f3_22 rfl 0 rfl ?_
    refine qq_bipush (v := (-100)) dJ6_getChars_ba4f3_23 (by decide) ?_
    refine qq_icmp_gt (tgt := 72) dJ6_getChars_ba4f3_25 (by decide) (fun zc2 => ?_) (fun zc2 => ?_)
    · refine qq_aload_n dJ6_getChars_ba4f3_72 rfl 2 rfl ?_
      refine qq_iinc (v := (Int32.ofNat e) + (-1)) (loc' := [(0, .int (-q)), (1, .int (Int32.ofNat e)), (2, .ref w), (5, .int ((Int32.ofNat e) + (-1))), (6, .int 0)]) dJ6_getChars_ba4f3_73 3 rfl rfl [1, 2, 3, 0, 4] (Nat.le_of_ble_eq_true rfl) rfl ?_
      rw [tx_dn (e := e) (by omega)]
      refine qq_iload dJ6_getChars_ba4f3_76 3 rfl ?_
      refine qq_gets (C := "java/lang/Integer") (nm := "DigitOnes") (d := "[B") (v := .ref 7) dJ6_getChars_ba4f3_78 (by decide +kernel) kl_J6_83 ?_
      refine qq_iload_n dJ6_getChars_ba4f3_81 rfl 0 rfl ?_
      refine qq_ineg dJ6_getChars_ba4f3_82 ?_
      refine qq_bald dJ6_getChars_ba4f3_83 h7 (gc_2 (rq_p hq zc1) (by assumption)) ?_
      refine qq_bast dJ6_getChars_ba4f3_84 h4 (show 80 ≤ _ by omega) (tx_in (by omega) (by omega)) ?_
      obtain ⟨H1, he1⟩ : ∃ h : qq_H, (hp.1, va_up hp.2 w (.inl (3, 16, .inl (upd g (Int32.ofNat (e - 1)).toNatClampNeg (vp_nar .byte (t_d1 (-(-q)).toNatClampNeg)))))) = h := ⟨_, rfl⟩
      refine qq_hp (hp2 := H1) he1 ?_
      have zk1 : ∀ j : Nat, j ≠ w → H1.2 j = hp.2 j := fun j d0 => by rw [← he1]; exact up_o (by omega) rfl
      have zs1 : H1.1 = hp.1 + 0 := by rw [← he1]; show hp.1 = _; omega
      have q1_0 : H1.2 7 = .inl (3, 100, .inl t_d1) := (zk1 7 (by omega)).trans h7
      have q1_1 : H1.2 8 = .inl (3, 100, .inl t_d2) := (zk1 8 (by omega)).trans h8
      have q1_2 : H1.2 w = .inl (3, 16, .inl (upd g (Int32.ofNat (e - 1)).toNatClampNeg (vp_nar .byte (t_d1 (-(-q)).toNatClampNeg)))) := by rw [← he1]; exact up_p
      have zf1 : ∀ j : Nat, j ≠ w → H1.2 j = hp.2 j := fun j e0 => (zk1 j (by omega)).trans rfl
      obtain ⟨g1, hg1⟩ : ∃ gz : Nat → Int32, upd g (Int32.ofNat (e - 1)).toNatClampNeg (vp_nar .byte (t_d1 (-(-q)).toNatClampNeg)) = gz := ⟨_, rfl⟩
      have bg1 : byt g1 := by rw [← hg1]; exact byt_u bg _ _
      rw [hg1] at q1_2
      refine qq_iload_n dJ6_getChars_ba4f3_85 rfl 0 rfl ?_
      refine qq_bipush (v := (-9)) dJ6_getChars_ba4f3_86 (by decide) ?_
      refine qq_icmp_ge (tgt := 104) dJ6_getChars_ba4f3_88 (by decide) (fun zc3 => ?_) (fun zc3 => ?_)
      · refine qq_iload dJ6_getChars_ba4f3_104 4 rfl ?_
        refine qq_if_eq (tgt := 118) dJ6_getChars_ba4f3_106 (by decide) (fun _ => ?_) (fun z => absurd (by decide) z)
        refine qq_iload dJ6_getChars_ba4f3_118 3 rfl ?_
        exact qq_iret dJ6_getChars_ba4f3_120 rfl rfl ⟨⟨_, rfl⟩, ⟨_, q1_2, bg1⟩, zs1, zf1⟩
      · refine qq_aload_n dJ6_getChars_ba4f3_91 rfl 2 rfl ?_
        refine qq_iinc (v := (Int32.ofNat (e - 1)) + (-1)) (loc' := [(0, .int (-q)), (1, .int (Int32.ofNat e)), (2, .ref w), (5, .int ((Int32.ofNat (e - 1)) + (-1))), (6, .int 0)]) dJ6_getChars_ba4f3_92 3 rfl rfl [1, 2, 3, 0, 4] (Nat.le_of_ble_eq_true rfl) rfl ?_
        rw [tx_dn (e := e - 1) (by omega)]
        refine qq_iload dJ6_getChars_ba4f3_95 3 rfl ?_
        refine qq_gets (C := "java/lang/Integer") (nm := "DigitTens") (d := "[B") (v := .ref 8) dJ6_getChars_ba4f3_97 (by decide +kernel) kl_J6_87 ?_
        refine qq_iload_n dJ6_getChars_ba4f3_100 rfl 0 rfl ?_
        refine qq_ineg dJ6_getChars_ba4f3_101 ?_
        refine qq_bald dJ6_getChars_ba4f3_102 q1_1 (gc_2 (rq_p hq zc1) (by assumption)) ?_
        refine qq_bast dJ6_getChars_ba4f3_103 q1_2 (show 80 ≤ _ by omega) (tx_in (by omega) (by omega)) ?_
        obtain ⟨H2, he2⟩ : ∃ h : qq_H, (H1.1, va_up H1.2 w (.inl (3, 16, .inl (upd g1 (Int32.ofNat (e - 1 - 1)).toNatClampNeg (vp_nar .byte (t_d2 (-(-q)).toNatClampNeg)))))) = h := ⟨_, rfl⟩
        refine qq_hp (hp2 := H2) he2 ?_
        have zk2 : ∀ j : Nat, j ≠ w → H2.2 j = H1.2 j := fun j d0 => by rw [← he2]; exact up_o (by omega) rfl
        have zs2 : H2.1 = hp.1 + 0 := by rw [← he2]; show H1.1 = _; omega
        have q2_0 : H2.2 7 = .inl (3, 100, .inl t_d1) := (zk2 7 (by omega)).trans q1_0
        have q2_1 : H2.2 8 = .inl (3, 100, .inl t_d2) := (zk2 8 (by omega)).trans q1_1
        have q2_2 : H2.2 w = .inl (3, 16, .inl (upd g1 (Int32.ofNat (e - 1 - 1)).toNatClampNeg (vp_nar .byte (t_d2 (-(-q)).toNatClampNeg)))) := by rw [← he2]; exact up_p
        have zf2 : ∀ j : Nat, j ≠ w → H2.2 j = hp.2 j := fun j e0 => (zk2 j (by omega)).trans (zf1 j e0)
        obtain ⟨g2, hg2⟩ : ∃ gz : Nat → Int32, upd g1 (Int32.ofNat (e - 1 - 1)).toNatClampNeg (vp_nar .byte (t_d2 (-(-q)).toNatClampNeg)) = gz := ⟨_, rfl⟩
        have bg2 : byt g2 := by rw [← hg2]; exact byt_u bg1 _ _
        rw [hg2] at q2_2
        refine qq_iload dJ6_getChars_ba4f3_104 4 rfl ?_
        refine qq_if_eq (tgt := 118) dJ6_getChars_ba4f3_106 (by decide) (fun _ => ?_) (fun z => absurd (by decide) z)
        refine qq_iload dJ6_getChars_ba4f3_118 3 rfl ?_
        exact qq_iret dJ6_getChars_ba4f3_120 rfl rfl ⟨⟨_, rfl⟩, ⟨_, q2_2, bg2⟩, zs2, zf2⟩
    · refine qq_iload_n dJ6_getChars_ba4f3_28 rfl 0 rfl ?_
      refine qq_bipush (v := 100) dJ6_getChars_ba4f3_29 (by decide) ?_
      refine qq_idiv dJ6_getChars_ba4f3_31 (by decide) ?_
      refine qq_istore_n (loc' := [(0, .int (-q)), (1, .int (Int32.ofNat e)), (2, .ref w), (3, .int ((-q) / 100)), (5, .int (Int32.ofNat e)), (6, .int 0)]) dJ6_getChars_ba4f3_32 rfl [1, 2, 3, 0, 4, 5] (Nat.le_of_ble_eq_true rfl) rfl ?_
      refine qq_iload_n dJ6_getChars_ba4f3_33 rfl 3 rfl ?_
      refine qq_bipush (v := 100) dJ6_getChars_ba4f3_34 (by decide) ?_
      refine qq_imul dJ6_getChars_ba4f3_36 ?_
      refine qq_iload_n dJ6_getChars_ba4f3_37 rfl 0 rfl ?_
      refine qq_isub dJ6_getChars_ba4f3_38 ?_
      refine qq_istore (loc' := [(0, .int (-q)), (1, .int (Int32.ofNat e)), (2, .ref w), (3, .int ((-q) / 100)), (4, .int ((((-q) / 100) * 100) - (-q))), (5, .int (Int32.ofNat e)), (6, .int 0)]) dJ6_getChars_ba4f3_39 [1, 2, 3, 4, 0, 5, 6] (Nat.le_of_ble_eq_true rfl) rfl ?_
      refine qq_iload_n dJ6_getChars_ba4f3_41 rfl 3 rfl ?_
      refine qq_istore_n (loc' := [(0, .int ((-q) / 100)), (1, .int (Int32.ofNat e)), (2, .ref w), (3, .int ((-q) / 100)), (4, .int ((((-q) / 100) * 100) - (-q))), (5, .int (Int32.ofNat e)), (6, .int 0)]) dJ6_getChars_ba4f3_42 rfl [0, 1, 2, 3, 4, 5, 6] (Nat.le_of_ble_eq_true rfl) rfl ?_
      refine qq_aload_n dJ6_getChars_ba4f3_43 rfl 2 rfl ?_
      refine qq_iinc (v := (Int32.ofNat e) + (-1)) (loc' := [(0, .int ((-q) / 100)), (1, .int (Int32.ofNat e)), (2, .ref w), (3, .int ((-q) / 100)), (4, .int ((((-q) / 100) * 100) - (-q))), (5, .int ((Int32.ofNat e) + (-1))), (6, .int 0)]) dJ6_getChars_ba4f3_44 5 rfl rfl [1, 2, 3, 4, 5, 0, 6] (Nat.le_of_ble_eq_true rfl) rfl ?_
      rw [tx_dn (e := e) (by omega)]
      refine qq_iload dJ6_getChars_ba4f3_47 5 rfl ?_
      refine qq_gets (C := "java/lang/Integer") (nm := "DigitOnes") (d := "[B") (v := .ref 7) dJ6_getChars_ba4f3_49 (by decide +kernel) kl_J6_83 ?_
      refine qq_iload dJ6_getChars_ba4f3_52 4 rfl ?_
      refine qq_bald dJ6_getChars_ba4f3_54 h7 (gc_1 (rq_p hq zc1) (by assumption)).2.1 ?_
      refine qq_bast dJ6_getChars_ba4f3_55 h4 (show 80 ≤ _ by omega) (tx_in (by omega) (by omega)) ?_
      obtain ⟨H3, he3⟩ : ∃ h : qq_H, (hp.1, va_up hp.2 w (.inl (3, 16, .inl (upd g (Int32.ofNat (e - 1)).toNatClampNeg (vp_nar .byte (t_d1 ((((-q) / 100) * 100) - (-q)).toNatClampNeg)))))) = h := ⟨_, rfl⟩
      refine qq_hp (hp2 := H3) he3 ?_
      have zk3 : ∀ j : Nat, j ≠ w → H3.2 j = hp.2 j := fun j d0 => by rw [← he3]; exact up_o (by omega) rfl
      have zs3 : H3.1 = hp.1 + 0 := by rw [← he3]; show hp.1 = _; omega
      have q3_0 : H3.2 7 = .inl (3, 100, .inl t_d1) := (zk3 7 (by omega)).trans h7
      have q3_1 : H3.2 8 = .inl (3, 100, .inl t_d2) := (zk3 8 (by omega)).trans h8
      have q3_2 : H3.2 w = .inl (3, 16, .inl (upd g (Int32.ofNat (e - 1)).toNatClampNeg (vp_nar .byte (t_d1 ((((-q) / 100) * 100) - (-q)).toNatClampNeg)))) := by rw [← he3]; exact up_p
      have zf3 : ∀ j : Nat, j ≠ w → H3.2 j = hp.2 j := fun j e0 => (zk3 j (by omega)).trans rfl
      obtain ⟨g3, hg3⟩ : ∃ gz : Nat → Int32, upd g (Int32.ofNat (e - 1)).toNatClampNeg (vp_nar .byte (t_d1 ((((-q) / 100) * 100) - (-q)).toNatClampNeg)) = gz := ⟨_, rfl⟩
      have bg3 : byt g3 := by rw [← hg3]; exact byt_u bg _ _
      rw [hg3] at q3_2
      refine qq_aload_n dJ6_getChars_ba4f3_56 rfl 2 rfl ?_
      refine qq_iinc (v := (Int32.ofNat (e - 1)) + (-1)) (loc' := [(0, .int ((-q) / 100)), (1, .int (Int32.ofNat e)), (2, .ref w), (3, .int ((-q) / 100)), (4, .int ((((-q) / 100) * 100) - (-q))), (5, .int ((Int32.ofNat (e - 1)) + (-1))), (6, .int 0)]) dJ6_getChars_ba4f3_57 5 rfl rfl [1, 2, 3, 4, 5, 0, 6] (Nat.le_of_ble_eq_true rfl) rfl ?_
      rw [tx_dn (e := e - 1) (by omega)]
      refine qq_iload dJ6_getChars_ba4f3_60 5 rfl ?_
      refine qq_gets (C := "java/lang/Integer") (nm := "DigitTens") (d := "[B") (v := .ref 8) dJ6_getChars_ba4f3_62 (by decide +kernel) kl_J6_87 ?_
      refine qq_iload dJ6_getChars_ba4f3_65 4 rfl ?_
      refine qq_bald dJ6_getChars_ba4f3_67 q3_1 (gc_1 (rq_p hq zc1) (by assumption)).2.1 ?_
      refine qq_bast dJ6_getChars_ba4f3_68 q3_2 (show 80 ≤ _ by omega) (tx_in (by omega) (by omega)) ?_
      obtain ⟨H4, he4⟩ : ∃ h : qq_H, (H3.1, va_up H3.2 w (.inl (3, 16, .inl (upd g3 (Int32.ofNat (e - 1 - 1)).toNatClampNeg (vp_nar .byte (t_d2 ((((-q) / 100) * 100) - (-q)).toNatClampNeg)))))) = h := ⟨_, rfl⟩
      refine qq_hp (hp2 := H4) he4 ?_
      have zk4 : ∀ j : Nat, j ≠ w → H4.2 j = H3.2 j := fun j d0 => by rw [← he4]; exact up_o (by omega) rfl
      have zs4 : H4.1 = hp.1 + 0 := by rw [← he4]; show H3.1 = _; omega
      have q4_0 : H4.2 7 = .inl (3, 100, .inl t_d1) := (zk4 7 (by omega)).trans q3_0
      have q4_1 : H4.2 8 = .inl (3, 100, .inl t_d2) := (zk4 8 (by omega)).trans q3_1
      have q4_2 : H4.2 w = .inl (3, 16, .inl (upd g3 (Int32.ofNat (e - 1 - 1)).toNatClampNeg (vp_nar .byte (t_d2 ((((-q) / 100) * 100) - (-q)).toNatClampNeg)))) := by rw [← he4]; exact up_p
      have zf4 : ∀ j : Nat, j ≠ w → H4.2 j = hp.2 j := fun j e0 => (zk4 j (by omega)).trans (zf3 j e0)
      obtain ⟨g4, hg4⟩ : ∃ gz : Nat → Int32, upd g3 (Int32.ofNat (e - 1 - 1)).toNatClampNeg (vp_nar .byte (t_d2 ((((-q) / 100) * 100) - (-q)).toNatClampNeg)) = gz := ⟨_, rfl⟩
      have bg4 : byt g4 := by rw [← hg4]; exact byt_u bg3 _ _
      rw [hg4] at q4_2
      refine qq_goto (tgt := 22) dJ6_getChars_ba4f3_69 (by decide) ?_
      refine qq_iload_n dJ6_getChars_ba4f3_22 rfl 0 rfl ?_
      refine qq_bipush (v := (-100)) dJ6_getChars_ba4f3_23 (by decide) ?_
      refine qq_icmp_gt (tgt := 72) dJ6_getChars_ba4f3_25 (by decide) (fun _ => ?_) (fun z => absurd (gc_1 (rq_p hq zc1) (by assumption)).1 z)
      refine qq_aload_n dJ6_getChars_ba4f3_72 rfl 2 rfl ?_
      refine qq_iinc (v := (Int32.ofNat (e - 1 - 1)) + (-1)) (loc' := [(0, .int ((-q) / 100)), (1, .int (Int32.ofNat e)), (2, .ref w), (3, .int ((-q) / 100)), (4, .int ((((-q) / 100) * 100) - (-q))), (5, .int ((Int32.ofNat (e - 1 - 1)) + (-1))), (6, .int 0)]) dJ6_getChars_ba4f3_73 5 rfl rfl [1, 2, 3, 4, 5, 0, 6] (Nat.le_of_ble_eq_true rfl) rfl ?_
      rw [tx_dn (e := e - 1 - 1) (by omega)]
      refine qq_iload dJ6_getChars_ba4f3_76 5 rfl ?_
      refine qq_gets (C := "java/lang/Integer") (nm := "DigitOnes") (d := "[B") (v := .ref 7) dJ6_getChars_ba4f3_78 (by decide +kernel) kl_J6_83 ?_
      refine qq_iload_n dJ6_getChars_ba4f3_81 rfl 0 rfl ?_
      refine qq_ineg dJ6_getChars_ba4f3_82 ?_
      refine qq_bald dJ6_getChars_ba4f3_83 q4_0 (gc_1 (rq_p hq zc1) (by assumption)).2.2 ?_
      refine qq_bast dJ6_getChars_ba4f3_84 q4_2 (show 80 ≤ _ by omega) (tx_in (by omega) (by omega)) ?_
      obtain ⟨H5, he5⟩ : ∃ h : qq_H, (H4.1, va_up H4.2 w (.inl (3, 16, .inl (upd g4 (Int32.ofNat (e - 1 - 1 - 1)).toNatClampNeg (vp_nar .byte (t_d1 (-((-q) / 100)).toNatClampNeg)))))) = h := ⟨_, rfl⟩
      refine qq_hp (hp2 := H5) he5 ?_
      have zk5 : ∀ j : Nat, j ≠ w → H5.2 j = H4.2 j := fun j d0 => by rw [← he5]; exact up_o (by omega) rfl
      have zs5 : H5.1 = hp.1 + 0 := by rw [← he5]; show H4.1 = _; omega
      have q5_0 : H5.2 7 = .inl (3, 100, .inl t_d1) := (zk5 7 (by omega)).trans q4_0
      have q5_1 : H5.2 8 = .inl (3, 100, .inl t_d2) := (zk5 8 (by omega)).trans q4_1
      have q5_2 : H5.2 w = .inl (3, 16, .inl (upd g4 (Int32.ofNat (e - 1 - 1 - 1)).toNatClampNeg (vp_nar .byte (t_d1 (-((-q) / 100)).toNatClampNeg)))) := by rw [← he5]; exact up_p
      have zf5 : ∀ j : Nat, j ≠ w → H5.2 j = hp.2 j := fun j e0 => (zk5 j (by omega)).trans (zf4 j e0)
      obtain ⟨g5, hg5⟩ : ∃ gz : Nat → Int32, upd g4 (Int32.ofNat (e - 1 - 1 - 1)).toNatClampNeg (vp_nar .byte (t_d1 (-((-q) / 100)).toNatClampNeg)) = gz := ⟨_, rfl⟩
      have bg5 : byt g5 := by rw [← hg5]; exact byt_u bg4 _ _
      rw [hg5] at q5_2
      refine qq_iload_n dJ6_getChars_ba4f3_85 rfl 0 rfl ?_
      refine qq_bipush (v := (-9)) dJ6_getChars_ba4f3_86 (by decide) ?_
      refine qq_icmp_ge (tgt := 104) dJ6_getChars_ba4f3_88 (by decide) (fun zc4 => ?_) (fun zc4 => ?_)
      · refine qq_iload dJ6_getChars_ba4f3_104 6 rfl ?_
        refine qq_if_eq (tgt := 118) dJ6_getChars_ba4f3_106 (by decide) (fun _ => ?_) (fun z => absurd (by decide) z)
        refine qq_iload dJ6_getChars_ba4f3_118 5 rfl ?_
        exact qq_iret dJ6_getChars_ba4f3_120 rfl rfl ⟨⟨_, rfl⟩, ⟨_, q5_2, bg5⟩, zs5, zf5⟩
      · refine qq_aload_n dJ6_getChars_ba4f3_91 rfl 2 rfl ?_
        refine qq_iinc (v := (Int32.ofNat (e - 1 - 1 - 1)) + (-1)) (loc' := [(0, .int ((-q) / 100)), (1, .int (Int32.ofNat e)), (2, .ref w), (3, .int ((-q) / 100)), (4, .int ((((-q) / 100) * 100) - (-q))), (5, .int ((Int32.ofNat (e - 1 - 1 - 1)) + (-1))), (6, .int 0)]) dJ6_getChars_ba4f3_92 5 rfl rfl [1, 2, 3, 4, 5, 0, 6] (Nat.le_of_ble_eq_true rfl) rfl ?_
        rw [tx_dn (e := e - 1 - 1 - 1) (by omega)]
        refine qq_iload dJ6_getChars_ba4f3_95 5 rfl ?_
        refine qq_gets (C := "java/lang/Integer") (nm := "DigitTens") (d := "[B") (v := .ref 8) dJ6_getChars_ba4f3_97 (by decide +kernel) kl_J6_87 ?_
        refine qq_iload_n dJ6_getChars_ba4f3_100 rfl 0 rfl ?_
        refine qq_ineg dJ6_getChars_ba4f3_101 ?_
        refine qq_bald dJ6_getChars_ba4f3_102 q5_1 (gc_1 (rq_p hq zc1) (by assumption)).2.2 ?_
        refine qq_bast dJ6_getChars_ba4f3_103 q5_2 (show 80 ≤ _ by omega) (tx_in (by omega) (by omega)) ?_
        obtain ⟨H6, he6⟩ : ∃ h : qq_H, (H5.1, va_up H5.2 w (.inl (3, 16, .inl (upd g5 (Int32.ofNat (e - 1 - 1 - 1 - 1)).toNatClampNeg (vp_nar .byte (t_d2 (-((-q) / 100)).toNatClampNeg)))))) = h := ⟨_, rfl⟩
        refine qq_hp (hp2 := H6) he6 ?_
        have zk6 : ∀ j : Nat, j ≠ w → H6.2 j = H5.2 j := fun j d0 => by rw [← he6]; exact up_o (by omega) rfl
        have zs6 : H6.1 = hp.1 + 0 := by rw [← he6]; show H5.1 = _; omega
        have q6_0 : H6.2 7 = .inl (3, 100, .inl t_d1) := (zk6 7 (by omega)).trans q5_0
        have q6_1 : H6.2 8 = .inl (3, 100, .inl t_d2) := (zk6 8 (by omega)).trans q5_1
        have q6_2 : H6.2 w = .inl (3, 16, .inl (upd g5 (Int32.ofNat (e - 1 - 1 - 1 - 1)).toNatClampNeg (vp_nar .byte (t_d2 (-((-q) / 100)).toNatClampNeg)))) := by rw [← he6]; exact up_p
        have zf6 : ∀ j : Nat, j ≠ w → H6.2 j = hp.2 j := fun j e0 => (zk6 j (by omega)).trans (zf5 j e0)
        obtain ⟨g6, hg6⟩ : ∃ gz : Nat → Int32, upd g5 (Int32.ofNat (e - 1 - 1 - 1 - 1)).toNatClampNeg (vp_nar .byte (t_d2 (-((-q) / 100)).toNatClampNeg)) = gz := ⟨_, rfl⟩
        have bg6 : byt g6 := by rw [← hg6]; exact byt_u bg5 _ _
        rw [hg6] at q6_2
        refine qq_iload dJ6_getChars_ba4f3_104 6 rfl ?_
        refine qq_if_eq (tgt := 118) dJ6_getChars_ba4f3_106 (by decide) (fun _ => ?_) (fun z => absurd (by decide) z)
        refine qq_iload dJ6_getChars_ba4f3_118 5 rfl ?_
        exact qq_iret dJ6_getChars_ba4f3_120 rfl rfl ⟨⟨_, rfl⟩, ⟨_, q6_2, bg6⟩, zs6, zf6⟩
  · refine qq_iconst (v := 1) dJ6_getChars_ba4f3_7 (by decide) ?_
    refine qq_goto (tgt := 12) dJ6_getChars_ba4f3_8 (by decide) ?_
    refine qq_istore (loc' := [(0, .int q), (1, .int (Int32.ofNat e)), (2, .ref w), (5, .int (Int32.ofNat e)), (6, .int 1)]) dJ6_getChars_ba4f3_12 [1, 2, 3, 4, 0] (Nat.le_of_ble_eq_true rfl) rfl ?_
    refine qq_iload dJ6_getChars_ba4f3_14 4 rfl ?_
    refine qq_if_ne (tgt := 22) dJ6_getChars_ba4f3_16 (by decide) (fun _ => ?_) (fun z => absurd z (by decide))
    refine qq_iload_n dJ6_getChars_ba4f3_22 rfl 0 rfl ?_
    refine qq_bipush (v := (-100)) dJ6_getChars_ba4f3_23 (by decide) ?_
    refine qq_icmp_gt (tgt := 72) dJ6_getChars_ba4f3_25 (by decide) (fun zc5 => ?_) (fun zc5 => ?_)
    · refine qq_aload_n dJ6_getChars_ba4f3_72 rfl 2 rfl ?_
      refine qq_iinc (v := (Int32.ofNat e) + (-1)) (loc' := [(0, .int q), (1, .int (Int32.ofNat e)), (2, .ref w), (5, .int ((Int32.ofNat e) + (-1))), (6, .int 1)]) dJ6_getChars_ba4f3_73 3 rfl rfl [1, 2, 3, 0, 4] (Nat.le_of_ble_eq_true rfl) rfl ?_
      rw [tx_dn (e := e) (by omega)]
      refine qq_iload dJ6_getChars_ba4f3_76 3 rfl ?_
      refine qq_gets (C := "java/lang/Integer") (nm := "DigitOnes") (d := "[B") (v := .ref 7) dJ6_getChars_ba4f3_78 (by decide +kernel) kl_J6_83 ?_
      refine qq_iload_n dJ6_getChars_ba4f3_81 rfl 0 rfl ?_
      refine qq_ineg dJ6_getChars_ba4f3_82 ?_
      refine qq_bald dJ6_getChars_ba4f3_83 h7 (gc_2 (rq_n hq zc1) (by assumption)) ?_
      refine qq_bast dJ6_getChars_ba4f3_84 h4 (show 80 ≤ _ by omega) (tx_in (by omega) (by omega)) ?_
      obtain ⟨H7, he7⟩ : ∃ h : qq_H, (hp.1, va_up hp.2 w (.inl (3, 16, .inl (upd g (Int32.ofNat (e - 1)).toNatClampNeg (vp_nar .byte (t_d1 (-q).toNatClampNeg)))))) = h := ⟨_, rfl⟩
      refine qq_hp (hp2 := H7) he7 ?_
      have zk7 : ∀ j : Nat, j ≠ w → H7.2 j = hp.2 j := fun j d0 => by rw [← he7]; exact up_o (by omega) rfl
      have zs7 : H7.1 = hp.1 + 0 := by rw [← he7]; show hp.1 = _; omega
      have q7_0 : H7.2 7 = .inl (3, 100, .inl t_d1) := (zk7 7 (by omega)).trans h7
      have q7_1 : H7.2 8 = .inl (3, 100, .inl t_d2) := (zk7 8 (by omega)).trans h8
      have q7_2 : H7.2 w = .inl (3, 16, .inl (upd g (Int32.ofNat (e - 1)).toNatClampNeg (vp_nar .byte (t_d1 (-q).toNatClampNeg)))) := by rw [← he7]; exact up_p
      have zf7 : ∀ j : Nat, j ≠ w → H7.2 j = hp.2 j := fun j e0 => (zk7 j (by omega)).trans rfl
      obtain ⟨g7, hg7⟩ : ∃ gz : Nat → Int32, upd g (Int32.ofNat (e - 1)).toNatClampNeg (vp_nar .byte (t_d1 (-q).toNatClampNeg)) = gz := ⟨_, rfl⟩
      have bg7 : byt g7 := by rw [← hg7]; exact byt_u bg _ _
      rw [hg7] at q7_2
      refine qq_iload_n dJ6_getChars_ba4f3_85 rfl 0 rfl ?_
      refine qq_bipush (v := (-9)) dJ6_getChars_ba4f3_86 (by decide) ?_
      refine qq_icmp_ge (tgt := 104) dJ6_getChars_ba4f3_88 (by decide) (fun zc6 => ?_) (fun zc6 => ?_)
      · refine qq_iload dJ6_getChars_ba4f3_104 4 rfl ?_
        refine qq_if_eq (tgt := 118) dJ6_getChars_ba4f3_106 (by decide) (fun z => absurd z (by decide)) (fun _ => ?_)
        refine qq_aload_n dJ6_getChars_ba4f3_109 rfl 2 rfl ?_
        refine qq_iinc (v := (Int32.ofNat (e - 1)) + (-1)) (loc' := [(0, .int q), (1, .int (Int32.ofNat e)), (2, .ref w), (5, .int ((Int32.ofNat (e - 1)) + (-1))), (6, .int 1)]) dJ6_getChars_ba4f3_110 3 rfl rfl [1, 2, 3, 0, 4] (Nat.le_of_ble_eq_true rfl) rfl ?_
        rw [tx_dn (e := e - 1) (by omega)]
        refine qq_iload dJ6_getChars_ba4f3_113 3 rfl ?_
        refine qq_bipush (v := 45) dJ6_getChars_ba4f3_115 (by decide) ?_
        refine qq_bast dJ6_getChars_ba4f3_117 q7_2 (show 80 ≤ _ by omega) (tx_in (by omega) (by omega)) ?_
        obtain ⟨H8, he8⟩ : ∃ h : qq_H, (H7.1, va_up H7.2 w (.inl (3, 16, .inl (upd g7 (Int32.ofNat (e - 1 - 1)).toNatClampNeg (vp_nar .byte 45))))) = h := ⟨_, rfl⟩
        refine qq_hp (hp2 := H8) he8 ?_
        have zk8 : ∀ j : Nat, j ≠ w → H8.2 j = H7.2 j := fun j d0 => by rw [← he8]; exact up_o (by omega) rfl
        have zs8 : H8.1 = hp.1 + 0 := by rw [← he8]; show H7.1 = _; omega
        have q8_0 : H8.2 7 = .inl (3, 100, .inl t_d1) := (zk8 7 (by omega)).trans q7_0
        have q8_1 : H8.2 8 = .inl (3, 100, .inl t_d2) := (zk8 8 (by omega)).trans q7_1
        have q8_2 : H8.2 w = .inl (3, 16, .inl (upd g7 (Int32.ofNat (e - 1 - 1)).toNatClampNeg (vp_nar .byte 45))) := by rw [← he8]; exact up_p
        have zf8 : ∀ j : Nat, j ≠ w → H8.2 j = hp.2 j := fun j e0 => (zk8 j (by omega)).trans (zf7 j e0)
        obtain ⟨g8, hg8⟩ : ∃ gz : Nat → Int32, upd g7 (Int32.ofNat (e - 1 - 1)).toNatClampNeg (vp_nar .byte 45) = gz := ⟨_, rfl⟩
        have bg8 : byt g8 := by rw [← hg8]; exact byt_u bg7 _ _
        rw [hg8] at q8_2
        refine qq_iload dJ6_getChars_ba4f3_118 3 rfl ?_
        exact qq_iret dJ6_getChars_ba4f3_120 rfl rfl ⟨⟨_, rfl⟩, ⟨_, q8_2, bg8⟩, zs8, zf8⟩
      · refine qq_aload_n dJ6_getChars_ba4f3_91 rfl 2 rfl ?_
        refine qq_iinc (v := (Int32.ofNat (e - 1)) + (-1)) (loc' := [(0, .int q), (1, .int (Int32.ofNat e)), (2, .ref w), (5, .int ((Int32.ofNat (e - 1)) + (-1))), (6, .int 1)]) dJ6_getChars_ba4f3_92 3 rfl rfl [1, 2, 3, 0, 4] (Nat.le_of_ble_eq_true rfl) rfl ?_
        rw [tx_dn (e := e - 1) (by omega)]
        refine qq_iload dJ6_getChars_ba4f3_95 3 rfl ?_
        refine qq_gets (C := "java/lang/Integer") (nm := "DigitTens") (d := "[B") (v := .ref 8) dJ6_getChars_ba4f3_97 (by decide +kernel) kl_J6_87 ?_
        refine qq_iload_n dJ6_getChars_ba4f3_100 rfl 0 rfl ?_
        refine qq_ineg dJ6_getChars_ba4f3_101 ?_
        refine qq_bald dJ6_getChars_ba4f3_102 q7_1 (gc_2 (rq_n hq zc1) (by assumption)) ?_
        refine qq_bast dJ6_getChars_ba4f3_103 q7_2 (show 80 ≤ _ by omega) (tx_in (by omega) (by omega)) ?_
        obtain ⟨H9, he9⟩ : ∃ h : qq_H, (H7.1, va_up H7.2 w (.inl (3, 16, .inl (upd g7 (Int32.ofNat (e - 1 - 1)).toNatClampNeg (vp_nar .byte (t_d2 (-q).toNatClampNeg)))))) = h := ⟨_, rfl⟩
        refine qq_hp (hp2 := H9) he9 ?_
        have zk9 : ∀ j : Nat, j ≠ w → H9.2 j = H7.2 j := fun j d0 => by rw [← he9]; exact up_o (by omega) rfl
        have zs9 : H9.1 = hp.1 + 0 := by rw [← he9]; show H7.1 = _; omega
        have q9_0 : H9.2 7 = .inl (3, 100, .inl t_d1) := (zk9 7 (by omega)).trans q7_0
        have q9_1 : H9.2 8 = .inl (3, 100, .inl t_d2) := (zk9 8 (by omega)).trans q7_1
        have q9_2 : H9.2 w = .inl (3, 16, .inl (upd g7 (Int32.ofNat (e - 1 - 1)).toNatClampNeg (vp_nar .byte (t_d2 (-q).toNatClampNeg)))) := by rw [← he9]; exact up_p
        have zf9 : ∀ j : Nat, j ≠ w → H9.2 j = hp.2 j := fun j e0 => (zk9 j (by omega)).trans (zf7 j e0)
        obtain ⟨g9, hg9⟩ : ∃ gz : Nat → Int32, upd g7 (Int32.ofNat (e - 1 - 1)).toNatClampNeg (vp_nar .byte (t_d2 (-q).toNatClampNeg)) = gz := ⟨_, rfl⟩
        have bg9 : byt g9 := by rw [← hg9]; exact byt_u bg7 _ _
        rw [hg9] at q9_2
        refine qq_iload dJ6_getChars_ba4f3_104 4 rfl ?_
        refine qq_if_eq (tgt := 118) dJ6_getChars_ba4f3_106 (by decide) (fun z => absurd z (by decide)) (fun _ => ?_)
        refine qq_aload_n dJ6_getChars_ba4f3_109 rfl 2 rfl ?_
        refine qq_iinc (v := (Int32.ofNat (e - 1 - 1)) + (-1)) (loc' := [(0, .int q), (1, .int (Int32.ofNat e)), (2, .ref w), (5, .int ((Int32.ofNat (e - 1 - 1)) + (-1))), (6, .int 1)]) dJ6_getChars_ba4f3_110 3 rfl rfl [1, 2, 3, 0, 4] (Nat.le_of_ble_eq_true rfl) rfl ?_
        rw [tx_dn (e := e - 1 - 1) (by omega)]
        refine qq_iload dJ6_getChars_ba4f3_113 3 rfl ?_
        refine qq_bipush (v := 45) dJ6_getChars_ba4f3_115 (by decide) ?_
        refine qq_bast dJ6_getChars_ba4f3_117 q9_2 (show 80 ≤ _ by omega) (tx_in (by omega) (by omega)) ?_
        obtain ⟨H10, he10⟩ : ∃ h : qq_H, (H9.1, va_up H9.2 w (.inl (3, 16, .inl (upd g9 (Int32.ofNat (e - 1 - 1 - 1)).toNatClampNeg (vp_nar .byte 45))))) = h := ⟨_, rfl⟩
        refine qq_hp (hp2 := H10) he10 ?_
        have zk10 : ∀ j : Nat, j ≠ w → H10.2 j = H9.2 j := fun j d0 => by rw [← he10]; exact up_o (by omega) rfl
        have zs10 : H10.1 = hp.1 + 0 := by rw [← he10]; show H9.1 = _; omega
        have q10_0 : H10.2 7 = .inl (3, 100, .inl t_d1) := (zk10 7 (by omega)).trans q9_0
        have q10_1 : H10.2 8 = .inl (3, 100, .inl t_d2) := (zk10 8 (by omega)).trans q9_1
        have q10_2 : H10.2 w = .inl (3, 16, .inl (upd g9 (Int32.ofNat (e - 1 - 1 - 1)).toNatClampNeg (vp_nar .byte 45))) := by rw [← he10]; exact up_p
        have zf10 : ∀ j : Nat, j ≠ w → H10.2 j = hp.2 j := fun j e0 => (zk10 j (by omega)).trans (zf9 j e0)
        obtain ⟨g10, hg10⟩ : ∃ gz : Nat → Int32, upd g9 (Int32.ofNat (e - 1 - 1 - 1)).toNatClampNeg (vp_nar .byte 45) = gz := ⟨_, rfl⟩
        have bg10 : byt g10 := by rw [← hg10]; exact byt_u bg9 _ _
        rw [hg10] at q10_2
        refine qq_iload dJ6_getChars_ba4f3_118 3 rfl ?_
        exact qq_iret dJ6_getChars_ba4f3_120 rfl rfl ⟨⟨_, rfl⟩, ⟨_, q10_2, bg10⟩, zs10, zf10⟩
    · refine qq_iload_n dJ6_getChars_ba4f3_28 rfl 0 rfl ?_
      refine qq_bipush (v := 100) dJ6_getChars_ba4f3_29 (by decide) ?_
      refine qq_idiv dJ6_getChars_ba4f3_31 (by decide) ?_
      refine qq_istore_n (loc' := [(0, .int q), (1, .int (Int32.ofNat e)), (2, .ref w), (3, .int (q / 100)), (5, .int (Int32.ofNat e)), (6, .int 1)]) dJ6_getChars_ba4f3_32 rfl [1, 2, 3, 0, 4, 5] (Nat.le_of_ble_eq_true rfl) rfl ?_
      refine qq_iload_n dJ6_getChars_ba4f3_33 rfl 3 rfl ?_
      refine qq_bipush (v := 100) dJ6_getChars_ba4f3_34 (by decide) ?_
      refine qq_imul dJ6_getChars_ba4f3_36 ?_
      refine qq_iload_n dJ6_getChars_ba4f3_37 rfl 0 rfl ?_
      refine qq_isub dJ6_getChars_ba4f3_38 ?_
      refine qq_istore (loc' := [(0, .int q), (1, .int (Int32.ofNat e)), (2, .ref w), (3, .int (q / 100)), (4, .int (((q / 100) * 100) - q)), (5, .int (Int32.ofNat e)), (6, .int 1)]) dJ6_getChars_ba4f3_39 [1, 2, 3, 4, 0, 5, 6] (Nat.le_of_ble_eq_true rfl) rfl ?_
      refine qq_iload_n dJ6_getChars_ba4f3_41 rfl 3 rfl ?_
      refine qq_istore_n (loc' := [(0, .int (q / 100)), (1, .int (Int32.ofNat e)), (2, .ref w), (3, .int (q / 100)), (4, .int (((q / 100) * 100) - q)), (5, .int (Int32.ofNat e)), (6, .int 1)]) dJ6_getChars_ba4f3_42 rfl [0, 1, 2, 3, 4, 5, 6] (Nat.le_of_ble_eq_true rfl) rfl ?_
      refine qq_aload_n dJ6_getChars_ba4f3_43 rfl 2 rfl ?_
      refine qq_iinc (v := (Int32.ofNat e) + (-1)) (loc' := [(0, .int (q / 100)), (1, .int (Int32.ofNat e)), (2, .ref w), (3, .int (q / 100)), (4, .int (((q / 100) * 100) - q)), (5, .int ((Int32.ofNat e) + (-1))), (6, .int 1)]) dJ6_getChars_ba4f3_44 5 rfl rfl [1, 2, 3, 4, 5, 0, 6] (Nat.le_of_ble_eq_true rfl) rfl ?_
      rw [tx_dn (e := e) (by omega)]
      refine qq_iload dJ6_getChars_ba4f3_47 5 rfl ?_
      refine qq_gets (C := "java/lang/Integer") (nm := "DigitOnes") (d := "[B") (v := .ref 7) dJ6_getChars_ba4f3_49 (by decide +kernel) kl_J6_83 ?_
      refine qq_iload dJ6_getChars_ba4f3_52 4 rfl ?_
      refine qq_bald dJ6_getChars_ba4f3_54 h7 (gc_1 (rq_n hq zc1) (by assumption)).2.1 ?_
      refine qq_bast dJ6_getChars_ba4f3_55 h4 (show 80 ≤ _ by omega) (tx_in (by omega) (by omega)) ?_
      obtain ⟨H11, he11⟩ : ∃ h : qq_H, (hp.1, va_up hp.2 w (.inl (3, 16, .inl (upd g (Int32.ofNat (e - 1)).toNatClampNeg (vp_nar .byte (t_d1 (((q / 100) * 100) - q).toNatClampNeg)))))) = h := ⟨_, rfl⟩
      refine qq_hp (hp2 := H11) he11 ?_
      have zk11 : ∀ j : Nat, j ≠ w → H11.2 j = hp.2 j := fun j d0 => by rw [← he11]; exact up_o (by omega) rfl
      have zs11 : H11.1 = hp.1 + 0 := by rw [← he11]; show hp.1 = _; omega
      have q11_0 : H11.2 7 = .inl (3, 100, .inl t_d1) := (zk11 7 (by omega)).trans h7
      have q11_1 : H11.2 8 = .inl (3, 100, .inl t_d2) := (zk11 8 (by omega)).trans h8
      have q11_2 : H11.2 w = .inl (3, 16, .inl (upd g (Int32.ofNat (e - 1)).toNatClampNeg (vp_nar .byte (t_d1 (((q / 100) * 100) - q).toNatClampNeg)))) := by rw [← he11]; exact up_p
      have zf11 : ∀ j : Nat, j ≠ w → H11.2 j = hp.2 j := fun j e0 => (zk11 j (by omega)).trans rfl
      obtain ⟨g11, hg11⟩ : ∃ gz : Nat → Int32, upd g (Int32.ofNat (e - 1)).toNatClampNeg (vp_nar .byte (t_d1 (((q / 100) * 100) - q).toNatClampNeg)) = gz := ⟨_, rfl⟩
      have bg11 : byt g11 := by rw [← hg11]; exact byt_u bg _ _
      rw [hg11] at q11_2
      refine qq_aload_n dJ6_getChars_ba4f3_56 rfl 2 rfl ?_
      refine qq_iinc (v := (Int32.ofNat (e - 1)) + (-1)) (loc' := [(0, .int (q / 100)), (1, .int (Int32.ofNat e)), (2, .ref w), (3, .int (q / 100)), (4, .int (((q / 100) * 100) - q)), (5, .int ((Int32.ofNat (e - 1)) + (-1))), (6, .int 1)]) dJ6_getChars_ba4f3_57 5 rfl rfl [1, 2, 3, 4, 5, 0, 6] (Nat.le_of_ble_eq_true rfl) rfl ?_
      rw [tx_dn (e := e - 1) (by omega)]
      refine qq_iload dJ6_getChars_ba4f3_60 5 rfl ?_
      refine qq_gets (C := "java/lang/Integer") (nm := "DigitTens") (d := "[B") (v := .ref 8) dJ6_getChars_ba4f3_62 (by decide +kernel) kl_J6_87 ?_
      refine qq_iload dJ6_getChars_ba4f3_65 4 rfl ?_
      refine qq_bald dJ6_getChars_ba4f3_67 q11_1 (gc_1 (rq_n hq zc1) (by assumption)).2.1 ?_
      refine qq_bast dJ6_getChars_ba4f3_68 q11_2 (show 80 ≤ _ by omega) (tx_in (by omega) (by omega)) ?_
      obtain ⟨H12, he12⟩ : ∃ h : qq_H, (H11.1, va_up H11.2 w (.inl (3, 16, .inl (upd g11 (Int32.ofNat (e - 1 - 1)).toNatClampNeg (vp_nar .byte (t_d2 (((q / 100) * 100) - q).toNatClampNeg)))))) = h := ⟨_, rfl⟩
      refine qq_hp (hp2 := H12) he12 ?_
      have zk12 : ∀ j : Nat, j ≠ w → H12.2 j = H11.2 j := fun j d0 => by rw [← he12]; exact up_o (by omega) rfl
      have zs12 : H12.1 = hp.1 + 0 := by rw [← he12]; show H11.1 = _; omega
      have q12_0 : H12.2 7 = .inl (3, 100, .inl t_d1) := (zk12 7 (by omega)).trans q11_0
      have q12_1 : H12.2 8 = .inl (3, 100, .inl t_d2) := (zk12 8 (by omega)).trans q11_1
      have q12_2 : H12.2 w = .inl (3, 16, .inl (upd g11 (Int32.ofNat (e - 1 - 1)).toNatClampNeg (vp_nar .byte (t_d2 (((q / 100) * 100) - q).toNatClampNeg)))) := by rw [← he12]; exact up_p
      have zf12 : ∀ j : Nat, j ≠ w → H12.2 j = hp.2 j := fun j e0 => (zk12 j (by omega)).trans (zf11 j e0)
      obtain ⟨g12, hg12⟩ : ∃ gz : Nat → Int32, upd g11 (Int32.ofNat (e - 1 - 1)).toNatClampNeg (vp_nar .byte (t_d2 (((q / 100) * 100) - q).toNatClampNeg)) = gz := ⟨_, rfl⟩
      have bg12 : byt g12 := by rw [← hg12]; exact byt_u bg11 _ _
      rw [hg12] at q12_2
      refine qq_goto (tgt := 22) dJ6_getChars_ba4f3_69 (by decide) ?_
      refine qq_iload_n dJ6_getChars_ba4f3_22 rfl 0 rfl ?_
      refine qq_bipush (v := (-100)) dJ6_getChars_ba4f3_23 (by decide) ?_
      refine qq_icmp_gt (tgt := 72) dJ6_getChars_ba4f3_25 (by decide) (fun _ => ?_) (fun z => absurd (gc_1 (rq_n hq zc1) (by assumption)).1 z)
      refine qq_aload_n dJ6_getChars_ba4f3_72 rfl 2 rfl ?_
      refine qq_iinc (v := (Int32.ofNat (e - 1 - 1)) + (-1)) (loc' := [(0, .int (q / 100)), (1, .int (Int32.ofNat e)), (2, .ref w), (3, .int (q / 100)), (4, .int (((q / 100) * 100) - q)), (5, .int ((Int32.ofNat (e - 1 - 1)) + (-1))), (6, .int 1)]) dJ6_getChars_ba4f3_73 5 rfl rfl [1, 2, 3, 4, 5, 0, 6] (Nat.le_of_ble_eq_true rfl) rfl ?_
      rw [tx_dn (e := e - 1 - 1) (by omega)]
      refine qq_iload dJ6_getChars_ba4f3_76 5 rfl ?_
      refine qq_gets (C := "java/lang/Integer") (nm := "DigitOnes") (d := "[B") (v := .ref 7) dJ6_getChars_ba4f3_78 (by decide +kernel) kl_J6_83 ?_
      refine qq_iload_n dJ6_getChars_ba4f3_81 rfl 0 rfl ?_
      refine qq_ineg dJ6_getChars_ba4f3_82 ?_
      refine qq_bald dJ6_getChars_ba4f3_83 q12_0 (gc_1 (rq_n hq zc1) (by assumption)).2.2 ?_
      refine qq_bast dJ6_getChars_ba4f3_84 q12_2 (show 80 ≤ _ by omega) (tx_in (by omega) (by omega)) ?_
      obtain ⟨H13, he13⟩ : ∃ h : qq_H, (H12.1, va_up H12.2 w (.inl (3, 16, .inl (upd g12 (Int32.ofNat (e - 1 - 1 - 1)).toNatClampNeg (vp_nar .byte (t_d1 (-(q / 100)).toNatClampNeg)))))) = h := ⟨_, rfl⟩
      refine qq_hp (hp2 := H13) he13 ?_
      have zk13 : ∀ j : Nat, j ≠ w → H13.2 j = H12.2 j := fun j d0 => by rw [← he13]; exact up_o (by omega) rfl
      have zs13 : H13.1 = hp.1 + 0 := by rw [← he13]; show H12.1 = _; omega
      have q13_0 : H13.2 7 = .inl (3, 100, .inl t_d1) := (zk13 7 (by omega)).trans q12_0
      have q13_1 : H13.2 8 = .inl (3, 100, .inl t_d2) := (zk13 8 (by omega)).trans q12_1
      have q13_2 : H13.2 w = .inl (3, 16, .inl (upd g12 (Int32.ofNat (e - 1 - 1 - 1)).toNatClampNeg (vp_nar .byte (t_d1 (-(q / 100)).toNatClampNeg)))) := by rw [← he13]; exact up_p
      have zf13 : ∀ j : Nat, j ≠ w → H13.2 j = hp.2 j := fun j e0 => (zk13 j (by omega)).trans (zf12 j e0)
      obtain ⟨g13, hg13⟩ : ∃ gz : Nat → Int32, upd g12 (Int32.ofNat (e - 1 - 1 - 1)).toNatClampNeg (vp_nar .byte (t_d1 (-(q / 100)).toNatClampNeg)) = gz := ⟨_, rfl⟩
      have bg13 : byt g13 := by rw [← hg13]; exact byt_u bg12 _ _
      rw [hg13] at q13_2
      refine qq_iload_n dJ6_getChars_ba4f3_85 rfl 0 rfl ?_
      refine qq_bipush (v := (-9)) dJ6_getChars_ba4f3_86 (by decide) ?_
      refine qq_icmp_ge (tgt := 104) dJ6_getChars_ba4f3_88 (by decide) (fun zc7 => ?_) (fun zc7 => ?_)
      · refine qq_iload dJ6_getChars_ba4f3_104 6 rfl ?_
        refine qq_if_eq (tgt := 118) dJ6_getChars_ba4f3_106 (by decide) (fun z => absurd z (by decide)) (fun _ => ?_)
        refine qq_aload_n dJ6_getChars_ba4f3_109 rfl 2 rfl ?_
        refine qq_iinc (v := (Int32.ofNat (e - 1 - 1 - 1)) + (-1)) (loc' := [(0, .int (q / 100)), (1, .int (Int32.ofNat e)), (2, .ref w), (3, .int (q / 100)), (4, .int (((q / 100) * 100) - q)), (5, .int ((Int32.ofNat (e - 1 - 1 - 1)) + (-1))), (6, .int 1)]) dJ6_getChars_ba4f3_110 5 rfl rfl [1, 2, 3, 4, 5, 0, 6] (Nat.le_of_ble_eq_true rfl) rfl ?_
        rw [tx_dn (e := e - 1 - 1 - 1) (by omega)]
        refine qq_iload dJ6_getChars_ba4f3_113 5 rfl ?_
        refine qq_bipush (v := 45) dJ6_getChars_ba4f3_115 (by decide) ?_
        refine qq_bast dJ6_getChars_ba4f3_117 q13_2 (show 80 ≤ _ by omega) (tx_in (by omega) (by omega)) ?_
        obtain ⟨H14, he14⟩ : ∃ h : qq_H, (H13.1, va_up H13.2 w (.inl (3, 16, .inl (upd g13 (Int32.ofNat (e - 1 - 1 - 1 - 1)).toNatClampNeg (vp_nar .byte 45))))) = h := ⟨_, rfl⟩
        refine qq_hp (hp2 := H14) he14 ?_
        have zk14 : ∀ j : Nat, j ≠ w → H14.2 j = H13.2 j := fun j d0 => by rw [← he14]; exact up_o (by omega) rfl
        have zs14 : H14.1 = hp.1 + 0 := by rw [← he14]; show H13.1 = _; omega
        have q14_0 : H14.2 7 = .inl (3, 100, .inl t_d1) := (zk14 7 (by omega)).trans q13_0
        have q14_1 : H14.2 8 = .inl (3, 100, .inl t_d2) := (zk14 8 (by omega)).trans q13_1
        have q14_2 : H14.2 w = .inl (3, 16, .inl (upd g13 (Int32.ofNat (e - 1 - 1 - 1 - 1)).toNatClampNeg (vp_nar .byte 45))) := by rw [← he14]; exact up_p
        have zf14 : ∀ j : Nat, j ≠ w → H14.2 j = hp.2 j := fun j e0 => (zk14 j (by omega)).trans (zf13 j e0)
        obtain ⟨g14, hg14⟩ : ∃ gz : Nat → Int32, upd g13 (Int32.ofNat (e - 1 - 1 - 1 - 1)).toNatClampNeg (vp_nar .byte 45) = gz := ⟨_, rfl⟩
        have bg14 : byt g14 := by rw [← hg14]; exact byt_u bg13 _ _
        rw [hg14] at q14_2
        refine qq_iload dJ6_getChars_ba4f3_118 5 rfl ?_
        exact qq_iret dJ6_getChars_ba4f3_120 rfl rfl ⟨⟨_, rfl⟩, ⟨_, q14_2, bg14⟩, zs14, zf14⟩
      · refine qq_aload_n dJ6_getChars_ba4f3_91 rfl 2 rfl ?_
        refine qq_iinc (v := (Int32.ofNat (e - 1 - 1 - 1)) + (-1)) (loc' := [(0, .int (q / 100)), (1, .int (Int32.ofNat e)), (2, .ref w), (3, .int (q / 100)), (4, .int (((q / 100) * 100) - q)), (5, .int ((Int32.ofNat (e - 1 - 1 - 1)) + (-1))), (6, .int 1)]) dJ6_getChars_ba4f3_92 5 rfl rfl [1, 2, 3, 4, 5, 0, 6] (Nat.le_of_ble_eq_true rfl) rfl ?_
        rw [tx_dn (e := e - 1 - 1 - 1) (by omega)]
        refine qq_iload dJ6_getChars_ba4f3_95 5 rfl ?_
        refine qq_gets (C := "java/lang/Integer") (nm := "DigitTens") (d := "[B") (v := .ref 8) dJ6_getChars_ba4f3_97 (by decide +kernel) kl_J6_87 ?_
        refine qq_iload_n dJ6_getChars_ba4f3_100 rfl 0 rfl ?_
        refine qq_ineg dJ6_getChars_ba4f3_101 ?_
        refine qq_bald dJ6_getChars_ba4f3_102 q13_1 (gc_1 (rq_n hq zc1) (by assumption)).2.2 ?_
        refine qq_bast dJ6_getChars_ba4f3_103 q13_2 (show 80 ≤ _ by omega) (tx_in (by omega) (by omega)) ?_
        obtain ⟨H15, he15⟩ : ∃ h : qq_H, (H13.1, va_up H13.2 w (.inl (3, 16, .inl (upd g13 (Int32.ofNat (e - 1 - 1 - 1 - 1)).toNatClampNeg (vp_nar .byte (t_d2 (-(q / 100)).toNatClampNeg)))))) = h := ⟨_, rfl⟩
        refine qq_hp (hp2 := H15) he15 ?_
        have zk15 : ∀ j : Nat, j ≠ w → H15.2 j = H13.2 j := fun j d0 => by rw [← he15]; exact up_o (by omega) rfl
        have zs15 : H15.1 = hp.1 + 0 := by rw [← he15]; show H13.1 = _; omega
        have q15_0 : H15.2 7 = .inl (3, 100, .inl t_d1) := (zk15 7 (by omega)).trans q13_0
        have q15_1 : H15.2 8 = .inl (3, 100, .inl t_d2) := (zk15 8 (by omega)).trans q13_1
        have q15_2 : H15.2 w = .inl (3, 16, .inl (upd g13 (Int32.ofNat (e - 1 - 1 - 1 - 1)).toNatClampNeg (vp_nar .byte (t_d2 (-(q / 100)).toNatClampNeg)))) := by rw [← he15]; exact up_p
        have zf15 : ∀ j : Nat, j ≠ w → H15.2 j = hp.2 j := fun j e0 => (zk15 j (by omega)).trans (zf13 j e0)
        obtain ⟨g15, hg15⟩ : ∃ gz : Nat → Int32, upd g13 (Int32.ofNat (e - 1 - 1 - 1 - 1)).toNatClampNeg (vp_nar .byte (t_d2 (-(q / 100)).toNatClampNeg)) = gz := ⟨_, rfl⟩
        have bg15 : byt g15 := by rw [← hg15]; exact byt_u bg13 _ _
        rw [hg15] at q15_2
        refine qq_iload dJ6_getChars_ba4f3_104 6 rfl ?_
        refine qq_if_eq (tgt := 118) dJ6_getChars_ba4f3_106 (by decide) (fun z => absurd z (by decide)) (fun _ => ?_)
        refine qq_aload_n dJ6_getChars_ba4f3_109 rfl 2 rfl ?_
        refine qq_iinc (v := (Int32.ofNat (e - 1 - 1 - 1 - 1)) + (-1)) (loc' := [(0, .int (q / 100)), (1, .int (Int32.ofNat e)), (2, .ref w), (3, .int (q / 100)), (4, .int (((q / 100) * 100) - q)), (5, .int ((Int32.ofNat (e - 1 - 1 - 1 - 1)) + (-1))), (6, .int 1)]) dJ6_getChars_ba4f3_110 5 rfl rfl [1, 2, 3, 4, 5, 0, 6] (Nat.le_of_ble_eq_true rfl) rfl ?_
        rw [tx_dn (e := e - 1 - 1 - 1 - 1) (by omega)]
        refine qq_iload dJ6_getChars_ba4f3_113 5 rfl ?_
        refine qq_bipush (v := 45) dJ6_getChars_ba4f3_115 (by decide) ?_
        refine qq_bast dJ6_getChars_ba4f3_117 q15_2 (show 80 ≤ _ by omega) (tx_in (by omega) (by omega)) ?_
        obtain ⟨H16, he16⟩ : ∃ h : qq_H, (H15.1, va_up H15.2 w (.inl (3, 16, .inl (upd g15 (Int32.ofNat (e - 1 - 1 - 1 - 1 - 1)).toNatClampNeg (vp_nar .byte 45))))) = h := ⟨_, rfl⟩
        refine qq_hp (hp2 := H16) he16 ?_
        have zk16 : ∀ j : Nat, j ≠ w → H16.2 j = H15.2 j := fun j d0 => by rw [← he16]; exact up_o (by omega) rfl
        have zs16 : H16.1 = hp.1 + 0 := by rw [← he16]; show H15.1 = _; omega
        have q16_0 : H16.2 7 = .inl (3, 100, .inl t_d1) := (zk16 7 (by omega)).trans q15_0
        have q16_1 : H16.2 8 = .inl (3, 100, .inl t_d2) := (zk16 8 (by omega)).trans q15_1
        have q16_2 : H16.2 w = .inl (3, 16, .inl (upd g15 (Int32.ofNat (e - 1 - 1 - 1 - 1 - 1)).toNatClampNeg (vp_nar .byte 45))) := by rw [← he16]; exact up_p
        have zf16 : ∀ j : Nat, j ≠ w → H16.2 j = hp.2 j := fun j e0 => (zk16 j (by omega)).trans (zf15 j e0)
        obtain ⟨g16, hg16⟩ : ∃ gz : Nat → Int32, upd g15 (Int32.ofNat (e - 1 - 1 - 1 - 1 - 1)).toNatClampNeg (vp_nar .byte 45) = gz := ⟨_, rfl⟩
        have bg16 : byt g16 := by rw [← hg16]; exact byt_u bg15 _ _
        rw [hg16] at q16_2
        refine qq_iload dJ6_getChars_ba4f3_118 5 rfl ?_
        exact qq_iret dJ6_getChars_ba4f3_120 rfl rfl ⟨⟨_, rfl⟩, ⟨_, q16_2, bg16⟩, zs16, zf16⟩
set_option maxRecDepth 4000 in
theorem mt_api5 (hp : qq_H) (b w k : Nat) (m : Int32) (g : Nat → Int32) (bg : byt g) (hb : 80 ≤ b) (hw : 80 ≤ w) (hne : b ≠ w) (h3 : hp.2 b = .inr (1, [.ref w, .int 0, .int m, .int (Int32.ofNat k)])) (h4 : hp.2 w = .inl (3, 16, .inl g)) (q : Int32) (hq : rq q) (h7 : hp.2 7 = .inl (3, 100, .inl t_d1)) (h8 : hp.2 8 = .inl (3, 100, .inl t_d2)) (h5 : 5 ≤ k) (hk : k + 5 ≤ 16) : qq_Mt mJ5_append_c97b9 [.ref b, .int q] hp 0 0 (fun r hp' => r = some (.ref b) ∧ (∃ k', k' ≤ k + 5 ∧ sbd b w m k' hp') ∧ sfr b w hp hp') (fun _ _ => False) := by
  refine qq_met (by decide +kernel) (Nat.le_of_ble_eq_true rfl) (Nat.le_of_ble_eq_true rfl) kc_J5_append_c97b9 ?_
  show qq_Go _ hp 0 0 0 [(0, .ref b), (1, .int q)] [] _ _
  obtain ⟨n9, hn1, hn5, hn9⟩ := sz_q hq
  refine qq_aload_n dJ5_append_c97b9_0 rfl 0 rfl ?_
  refine qq_get (C := RJ4) (T := TJ4) (N := 4) dJ5_append_c97b9_1 h3 rfl 3 (by decide) rfl ku_J4 kl_J5_79 ?_
  refine qq_istore_n (loc' := [(0, .ref b), (1, .int q), (2, .int (Int32.ofNat k))]) dJ5_append_c97b9_4 rfl [1, 2, 0] (Nat.le_of_ble_eq_true rfl) rfl ?_
  refine qq_iload_n dJ5_append_c97b9_5 rfl 2 rfl ?_
  refine qq_iload_n dJ5_append_c97b9_6 rfl 1 rfl ?_
  refine qq_callS (bc := 0) (bs := 0) (mc := 0) (ms := 0) (as := [.int q]) (rest := [.int (Int32.ofNat k)]) dJ5_append_c97b9_7 (mt_J6_stringSize_0f7a4 hp _) rfl kl_J5_245 ks_J6_stringSize_0f7a4 ki_J6 kc_J6_stringSize_0f7a4 kd_J6_stringSize_0f7a4 rfl (by decide) (by decide) (Nat.le_of_ble_eq_true rfl) (fun v H1 hv _ _ => ?_) (fun E hp' zx _ _ => zx.elim)
  obtain ⟨rfl, rfl⟩ := hv
  rw [hn9]
  show qq_Go _ hp 0 0 10 [(0, .ref b), (1, .int q), (2, .int (Int32.ofNat k))] [.int (Int32.ofNat n9), .int (Int32.ofNat k)] _ _
  refine qq_iadd dJ5_append_c97b9_10 ?_
  rw [tx_add]
  refine qq_istore_n (loc' := [(0, .ref b), (1, .int q), (2, .int (Int32.ofNat k)), (3, .int (Int32.ofNat (k + n9)))]) dJ5_append_c97b9_11 rfl [1, 2, 3, 0] (Nat.le_of_ble_eq_true rfl) rfl ?_
  refine qq_aload_n dJ5_append_c97b9_12 rfl 0 rfl ?_
  refine qq_iload_n dJ5_append_c97b9_13 rfl 3 rfl ?_
  refine qq_callU (bc := 0) (bs := 0) (mc := 0) (ms := 0) (as := [.int (Int32.ofNat (k + n9))]) (rest := []) (o := b) (ci := 1) (N := 4) (T := TJ4) (C := RJ4) yJ5_ensureCapacityInternal_d00df dJ5_append_c97b9_14 h3 rfl (mt_ens hp _ _ _ _ _ _ (tx_le (by omega)) h3 h4) rfl rfl kl_J5_100 km_J5_ensureCapacityInternal_d00df (List.mem_append_left _ (by decide +kernel)) kn_J5_ensureCapacityInternal_d00df ki_J5 kc_J5_ensureCapacityInternal_d00df kd_J5_ensureCapacityInternal_d00df kd_J5_ensureCapacityInternal_d00df rfl (by decide) (by decide) (Nat.le_of_ble_eq_true rfl) (fun v H2 hv _ _ => ?_) (fun E hp' zx _ _ => zx.elim)
  obtain ⟨rfl, rfl⟩ := hv
  show qq_Go _ hp 0 0 17 [(0, .ref b), (1, .int q), (2, .int (Int32.ofNat k)), (3, .int (Int32.ofNat (k + n9)))] [] _ _
  refine qq_aload_n dJ5_append_c97b9_17 rfl 0 rfl ?_
  refine qq_callU (bc := 0) (bs := 0) (mc := 0) (ms := 0) (as := []) (rest := []) (o := b) (ci := 1) (N := 4) (T := TJ4) (C := RJ4) yJ5_isLatin1_aae02 dJ5_append_c97b9_18 h3 rfl (mt_lat hp _ _ _ _ h3) rfl rfl kl_J5_83 km_J5_isLatin1_aae02 kq_J5_isLatin1_aae02 kn_J5_isLatin1_aae02 ki_J5 kc_J5_isLatin1_aae02 kd_J5_isLatin1_aae02 kd_J5_isLatin1_aae02 rfl (by decide) (by decide) (Nat.le_of_ble_eq_true rfl) (fun v H3 hv _ _ => ?_) (fun E hp' zx _ _ => zx.elim)
  obtain ⟨rfl, rfl⟩ := hv
  show qq_Go _ hp 0 0 21 [(0, .ref b), (1, .int q), (2, .int (Int32.ofNat k)), (3, .int (Int32.ofNat (k + n9)))] [.int 1] _ _
  refine qq_if_eq (tgt := 37) dJ5_append_c97b9_21 (by decide) (fun z => absurd z (by decide)) (fun _ => ?_)
  refine qq_iload_n dJ5_append_c97b9_24 rfl 1 rfl ?_
  refine qq_iload_n dJ5_append_c97b9_25 rfl 3 rfl ?_
  refine qq_aload_n dJ5_append_c97b9_26 rfl 0 rfl ?_
  refine qq_get (C := RJ4) (T := TJ4) (N := 4) dJ5_append_c97b9_27 h3 rfl 0 (by decide) rfl ku_J4 kl_J5_15 ?_
  refine qq_callS (bc := 0) (bs := 0) (mc := 0) (ms := 0) (as := [.int q, .int (Int32.ofNat (k + n9)), .ref w]) (rest := []) dJ5_append_c97b9_30 (mt_getc hp _ hq _ _ _ bg (by omega) (by omega) (by omega) h7 h8 h4) rfl kl_J5_248 ks_J6_getChars_ba4f3 ki_J6 kc_J6_getChars_ba4f3 kd_J6_getChars_ba4f3 rfl (by decide) (by decide) (Nat.le_of_ble_eq_true rfl) (fun v H4 hv _ _ => ?_) (fun E hp' zx _ _ => zx.elim)
  obtain ⟨⟨i4, rfl⟩, ⟨g4, qw4, bg4⟩, zz4, zk4⟩ := hv
  have zs4 : H4.1 = hp.1 + 0 := by omega
  have q4_0 : H4.2 b = .inr (1, [.ref w, .int 0, .int m, .int (Int32.ofNat k)]) := (zk4 b (by omega)).trans h3
  have q4_1 : H4.2 7 = .inl (3, 100, .inl t_d1) := (zk4 7 (by omega)).trans h7
  have q4_2 : H4.2 8 = .inl (3, 100, .inl t_d2) := (zk4 8 (by omega)).trans h8
  have zf4 : ∀ j : Nat, j ≠ b → j ≠ w → H4.2 j = hp.2 j := fun j e0 e1 => (zk4 j (by omega)).trans rfl
  show qq_Go _ H4 0 0 33 [(0, .ref b), (1, .int q), (2, .int (Int32.ofNat k)), (3, .int (Int32.ofNat (k + n9)))] [.int i4] _ _
  refine qq_pop dJ5_append_c97b9_33 rfl ?_
  refine qq_goto (tgt := 48) dJ5_append_c97b9_34 (by decide) ?_
  refine qq_aload_n dJ5_append_c97b9_48 rfl 0 rfl ?_
  refine qq_iload_n dJ5_append_c97b9_49 rfl 3 rfl ?_
  refine qq_put (C := RJ4) (T := TJ4) (N := 4) (ty := .int) dJ5_append_c97b9_50 q4_0 (show 80 ≤ _ by omega) rfl 3 (by decide) (Nat.le_of_ble_eq_true rfl) ku_J4 kl_J5_79 tyJ4 tyJ4_ok nmJ4 rfl (by decide +kernel) (fun _ => rfl) (fun _ => rfl) ?_
  obtain ⟨H5, he5⟩ : ∃ h : qq_H, (H4.1, va_up H4.2 b (.inr (1, ([.ref w, .int 0, .int m, .int (Int32.ofNat k)] : List Value).set 3 (.int (Int32.ofNat (k + n9)))))) = h := ⟨_, rfl⟩
  refine qq_hp (hp2 := H5) he5 ?_
  have zk5 : ∀ j : Nat, j ≠ b → H5.2 j = H4.2 j := fun j d0 => by rw [← he5]; exact up_o (by omega) rfl
  have zs5 : H5.1 = hp.1 + 0 := by rw [← he5]; show H4.1 = _; omega
  have q5_0 : H5.2 7 = .inl (3, 100, .inl t_d1) := (zk5 7 (by omega)).trans q4_1
  have q5_1 : H5.2 8 = .inl (3, 100, .inl t_d2) := (zk5 8 (by omega)).trans q4_2
  have q5_2 : H5.2 w = .inl (3, 16, .inl g4) := (zk5 w (by omega)).trans qw4
  have q5_3 : H5.2 b = .inr (1, [.ref w, .int 0, .int m, .int (Int32.ofNat (k + n9))]) := by rw [← he5]; exact up_p
  have zf5 : ∀ j : Nat, j ≠ b → j ≠ w → H5.2 j = hp.2 j := fun j e0 e1 => (zk5 j (by omega)).trans (zf4 j e0 e1)
  refine qq_aload_n dJ5_append_c97b9_53 rfl 0 rfl ?_
  exact qq_aret dJ5_append_c97b9_54 rfl (Or.inl ⟨_, rfl⟩) (Or.inr ⟨_, rfl⟩) ⟨rfl, ⟨_, by omega, q5_3, _, q5_2, bg4⟩, zs5, zf5⟩
set_option maxRecDepth 4000 in
theorem mt_api (hp : qq_H) (b w k : Nat) (m : Int32) (g : Nat → Int32) (bg : byt g) (hb : 80 ≤ b) (hw : 80 ≤ w) (hne : b ≠ w) (h3 : hp.2 b = .inr (1, [.ref w, .int 0, .int m, .int (Int32.ofNat k)])) (h4 : hp.2 w = .inl (3, 16, .inl g)) (q : Int32) (hq : rq q) (h7 : hp.2 7 = .inl (3, 100, .inl t_d1)) (h8 : hp.2 8 = .inl (3, 100, .inl t_d2)) (h5 : 5 ≤ k) (hk : k + 5 ≤ 16) : qq_Mt mJ4_append_bf812 [.ref b, .int q] hp 0 0 (fun r hp' => r = some (.ref b) ∧ (∃ k', k' ≤ k + 5 ∧ sbd b w m k' hp') ∧ sfr b w hp hp') (fun _ _ => False) := by
  refine qq_met (by decide +kernel) (Nat.le_of_ble_eq_true rfl) (Nat.le_of_ble_eq_true rfl) kc_J4_append_bf812 ?_
  show qq_Go _ hp 0 0 0 [(0, .ref b), (1, .int q)] [] _ _
  refine qq_aload_n dJ4_append_bf812_0 rfl 0 rfl ?_
  refine qq_iload_n dJ4_append_bf812_1 rfl 1 rfl ?_
  refine qq_callSU (bc := 0) (bs := 0) (mc := 0) (ms := 0) (as := [.int q]) (rest := []) (o := b) (ci := 1) dJ4_append_bf812_2 h3 rfl (mt_api5 hp _ _ _ _ _ bg (by omega) (by omega) (by omega) h3 h4 _ hq h7 h8 (by omega) (by omega)) rfl kl_J4_53 km_J5_append_c97b9 kp_J4 kn_J5_append_c97b9 ki_J5 kc_J5_append_c97b9 (by decide) kd_J5_append_c97b9 rfl (by decide) (by decide) (Nat.le_of_ble_eq_true rfl) (fun v H1 hv _ _ => ?_) (fun E hp' zx _ _ => zx.elim)
  obtain ⟨rfl, ⟨k1, le1, qb1, g1, qw1, bg1⟩, zz1, zk1⟩ := hv
  have zs1 : H1.1 = hp.1 + 0 := by omega
  have q1_0 : H1.2 7 = .inl (3, 100, .inl t_d1) := (zk1 7 (by omega) (by omega)).trans h7
  have q1_1 : H1.2 8 = .inl (3, 100, .inl t_d2) := (zk1 8 (by omega) (by omega)).trans h8
  have zf1 : ∀ j : Nat, j ≠ b → j ≠ w → H1.2 j = hp.2 j := fun j e0 e1 => (zk1 j (by omega) (by omega)).trans rfl
  show qq_Go _ H1 0 0 5 [(0, .ref b), (1, .int q)] [.ref b] _ _
  refine qq_pop dJ4_append_bf812_5 rfl ?_
  refine qq_aload_n dJ4_append_bf812_6 rfl 0 rfl ?_
  exact qq_aret dJ4_append_bf812_7 rfl (Or.inl ⟨_, rfl⟩) (Or.inr ⟨_, rfl⟩) ⟨rfl, ⟨_, by omega, qb1, _, qw1, bg1⟩, zs1, zf1⟩
set_option maxRecDepth 4000 in
theorem mt_sbi5 (hp : qq_H) (b : Nat) (hb : 80 ≤ b) (hbl : b < hp.1) (h3 : hp.2 b = .inr (1, [.null, .int 0, .int 0, .int 0])) : qq_Mt mJ5_init_d00df [.ref b, .int 16] hp 1 16 (fun r hp' => r = none ∧ sbd b hp.1 0 0 hp' ∧ hp'.1 = hp.1 + 1 ∧ ∀ j : Nat, j < hp.1 → j ≠ b → hp'.2 j = hp.2 j) (fun _ _ => False) := by
  refine qq_met (by decide +kernel) (Nat.le_of_ble_eq_true rfl) (Nat.le_of_ble_eq_true rfl) kc_J5_init_d00df ?_
  show qq_Go _ hp 1 16 0 [(0, .ref b), (1, .int 16)] [] _ _
  refine qq_aload_n dJ5_init_d00df_0 rfl 0 rfl ?_
  refine qq_objI dJ5_init_d00df_1 kl_J5_3 kn_objI kc_objI (Nat.le_of_ble_eq_true rfl) ?_
  refine qq_gets (C := "java/lang/String") (nm := "COMPACT_STRINGS") (d := "Z") (v := .int 1) dJ5_init_d00df_4 (by decide +kernel) kl_J5_18 ?_
  refine qq_if_eq (tgt := 25) dJ5_init_d00df_7 (by decide) (fun z => absurd z (by decide)) (fun _ => ?_)
  refine qq_aload_n dJ5_init_d00df_10 rfl 0 rfl ?_
  refine qq_iload_n dJ5_init_d00df_11 rfl 1 rfl ?_
  refine qq_newB (bc := 0) (bs := 0) (ms := 16) (n := 16) (N' := 16) dJ5_init_d00df_12 (by decide) rfl (by decide) (by decide) ?_ ka_byte
  obtain ⟨H1, he1⟩ : ∃ h : qq_H, (hp.1 + 1, va_up hp.2 hp.1 (.inl (3, 16, .inl (fun _ => 0)))) = h := ⟨_, rfl⟩
  refine qq_hp (hp2 := H1) he1 ?_
  have zk1 : ∀ j : Nat, j ≠ hp.1 → H1.2 j = hp.2 j := fun j d0 => by rw [← he1]; exact up_o d0 rfl
  have zs1 : H1.1 = hp.1 + 1 := by rw [← he1]
  have q1_0 : H1.2 b = .inr (1, [.null, .int 0, .int 0, .int 0]) := (zk1 b (by omega)).trans h3
  have q1_1 : H1.2 hp.1 = .inl (3, 16, .inl (fun _ => 0)) := by rw [← he1]; exact up_p
  have zf1 : ∀ j : Nat, j < hp.1 → j ≠ b → H1.2 j = hp.2 j := fun j h0 e0 => (zk1 j (by omega)).trans rfl
  show qq_Go _ H1 0 0 14 [(0, .ref b), (1, .int 16)] [.ref hp.1, .ref b] _ _
  refine qq_put (C := RJ4) (T := TJ4) (N := 4) (ty := .array .byte) dJ5_init_d00df_14 q1_0 (show 80 ≤ _ by omega) rfl 0 (by decide) (Nat.le_of_ble_eq_true rfl) ku_J4 kl_J5_15 tyJ4 tyJ4_ok nmJ4 rfl (by decide +kernel) (fun _ => rfl) (fun _ => rfl) ?_
  obtain ⟨H2, he2⟩ : ∃ h : qq_H, (H1.1, va_up H1.2 b (.inr (1, ([.null, .int 0, .int 0, .int 0] : List Value).set 0 (.ref hp.1)))) = h := ⟨_, rfl⟩
  refine qq_hp (hp2 := H2) he2 ?_
  have zk2 : ∀ j : Nat, j ≠ b → H2.2 j = H1.2 j := fun j d0 => by rw [← he2]; exact up_o (by omega) rfl
  have zs2 : H2.1 = hp.1 + 1 := by rw [← he2]; show H1.1 = _; omega
  have q2_0 : H2.2 hp.1 = .inl (3, 16, .inl (fun _ => 0)) := (zk2 hp.1 (by omega)).trans q1_1
  have q2_1 : H2.2 b = .inr (1, [.ref hp.1, .int 0, .int 0, .int 0]) := by rw [← he2]; exact up_p
  have zf2 : ∀ j : Nat, j < hp.1 → j ≠ b → H2.2 j = hp.2 j := fun j h0 e0 => (zk2 j (by omega)).trans (zf1 j h0 e0)
  refine qq_aload_n dJ5_init_d00df_17 rfl 0 rfl ?_
  refine qq_iconst (v := 0) dJ5_init_d00df_18 (by decide) ?_
  refine qq_put (C := RJ4) (T := TJ4) (N := 4) (ty := .byte) dJ5_init_d00df_19 q2_1 (show 80 ≤ _ by omega) rfl 1 (by decide) (Nat.le_of_ble_eq_true rfl) ku_J4 kl_J5_22 tyJ4 tyJ4_ok nmJ4 rfl (by decide +kernel) (fun _ => rfl) (fun _ => rfl) ?_
  obtain ⟨H3, he3⟩ : ∃ h : qq_H, (H2.1, va_up H2.2 b (.inr (1, ([.ref hp.1, .int 0, .int 0, .int 0] : List Value).set 1 (.int 0)))) = h := ⟨_, rfl⟩
  refine qq_hp (hp2 := H3) he3 ?_
  have zk3 : ∀ j : Nat, j ≠ b → H3.2 j = H2.2 j := fun j d0 => by rw [← he3]; exact up_o (by omega) rfl
  have zs3 : H3.1 = hp.1 + 1 := by rw [← he3]; show H2.1 = _; omega
  have q3_0 : H3.2 hp.1 = .inl (3, 16, .inl (fun _ => 0)) := (zk3 hp.1 (by omega)).trans q2_0
  have q3_1 : H3.2 b = .inr (1, [.ref hp.1, .int 0, .int 0, .int 0]) := by rw [← he3]; exact up_p
  have zf3 : ∀ j : Nat, j < hp.1 → j ≠ b → H3.2 j = hp.2 j := fun j h0 e0 => (zk3 j (by omega)).trans (zf2 j h0 e0)
  refine qq_goto (tgt := 38) dJ5_init_d00df_22 (by decide) ?_
  exact qq_vret dJ5_init_d00df_38 rfl ⟨rfl, ⟨q3_1, _, q3_0, byt0⟩, zs3, zf3⟩
set_option maxRecDepth 4000 in
theorem mt_sbi (hp : qq_H) (b : Nat) (hb : 80 ≤ b) (hbl : b < hp.1) (h3 : hp.2 b = .inr (1, [.null, .int 0, .int 0, .int 0])) : qq_Mt mJ4_init_da8c8 [.ref b] hp 1 16 (fun r hp' => r = none ∧ sbd b hp.1 0 0 hp' ∧ hp'.1 = hp.1 + 1 ∧ ∀ j : Nat, j < hp.1 → j ≠ b → hp'.2 j = hp.2 j) (fun _ _ => False) := by
  refine qq_met (by decide +kernel) (Nat.le_of_ble_eq_true rfl) (Nat.le_of_ble_eq_true rfl) kc_J4_init_da8c8 ?_
  show qq_Go _ hp 1 16 0 [(0, .ref b)] [] _ _
  refine qq_aload_n dJ4_init_da8c8_0 rfl 0 rfl ?_
  refine qq_bipush (v := 16) dJ4_init_da8c8_1 (by decide) ?_
  refine qq_callI (bc := 0) (bs := 0) (mc := 1) (ms := 16) (as := [.int 16]) (rest := []) (o := b) dJ4_init_da8c8_3 (mt_sbi5 hp _ (by omega) (by omega) h3) rfl rfl rfl kl_J4_1 kn_J5_init_d00df ki_J5 kc_J5_init_d00df kd_J5_init_d00df rfl (by decide) (by decide) (Nat.le_of_ble_eq_true rfl) (fun v H1 hv _ _ => ?_) (fun E hp' zx _ _ => zx.elim)
  obtain ⟨rfl, ⟨qb1, g1, qw1, bg1⟩, zz1, zk1⟩ := hv
  have zs1 : H1.1 = hp.1 + 1 := by omega
  replace zk1 : ∀ j : Nat, j < hp.1 + 0 → j ≠ b → H1.2 j = hp.2 j := fun j a b => zk1 j (by omega) b
  have zf1 : ∀ j : Nat, j < hp.1 → j ≠ b → H1.2 j = hp.2 j := fun j h0 e0 => (zk1 j (by omega) (by omega)).trans rfl
  show qq_Go _ H1 0 0 6 [(0, .ref b)] [] _ _
  exact qq_vret dJ4_init_da8c8_6 rfl ⟨rfl, ⟨qb1, _, qw1, bg1⟩, zs1, zf1⟩
set_option maxRecDepth 4000 in
theorem mt_getv (hp : qq_H) (b w k : Nat) (m : Int32) (h3 : hp.2 b = .inr (1, [.ref w, .int 0, .int m, .int (Int32.ofNat k)])) : qq_Mt mJ5_getValue_6d5f1 [.ref b] hp 0 0 (fun r hp' => r = some (.ref w) ∧ hp = hp') (fun _ _ => False) := by
  refine qq_met (by decide +kernel) (Nat.le_of_ble_eq_true rfl) (Nat.le_of_ble_eq_true rfl) kc_J5_getValue_6d5f1 ?_
  show qq_Go _ hp 0 0 0 [(0, .ref b)] [] _ _
  refine qq_aload_n dJ5_getValue_6d5f1_0 rfl 0 rfl ?_
  refine qq_get (C := RJ4) (T := TJ4) (N := 4) dJ5_getValue_6d5f1_1 h3 rfl 0 (by decide) rfl ku_J4 kl_J5_15 ?_
  exact qq_aret dJ5_getValue_6d5f1_4 rfl (Or.inr ⟨_, rfl⟩) (Or.inr ⟨_, rfl⟩) ⟨rfl, rfl⟩
set_option maxRecDepth 4000 in
theorem mt_len5 (hp : qq_H) (b w k : Nat) (m : Int32) (h3 : hp.2 b = .inr (1, [.ref w, .int 0, .int m, .int (Int32.ofNat k)])) : qq_Mt mJ5_length_8abf5 [.ref b] hp 0 0 (fun r hp' => r = some (.int (Int32.ofNat k)) ∧ hp = hp') (fun _ _ => False) := by
  refine qq_met (by decide +kernel) (Nat.le_of_ble_eq_true rfl) (Nat.le_of_ble_eq_true rfl) kc_J5_length_8abf5 ?_
  show qq_Go _ hp 0 0 0 [(0, .ref b)] [] _ _
  refine qq_aload_n dJ5_length_8abf5_0 rfl 0 rfl ?_
  refine qq_get (C := RJ4) (T := TJ4) (N := 4) dJ5_length_8abf5_1 h3 rfl 3 (by decide) rfl ku_J4 kl_J5_79 ?_
  exact qq_iret dJ5_length_8abf5_4 rfl rfl ⟨rfl, rfl⟩
set_option maxRecDepth 4000 in
theorem mt_len (hp : qq_H) (b w k : Nat) (m : Int32) (h3 : hp.2 b = .inr (1, [.ref w, .int 0, .int m, .int (Int32.ofNat k)])) : qq_Mt mJ4_length_8abf5 [.ref b] hp 0 0 (fun r hp' => r = some (.int (Int32.ofNat k)) ∧ hp = hp') (fun _ _ => False) := by
  refine qq_met (by decide +kernel) (Nat.le_of_ble_eq_true rfl) (Nat.le_of_ble_eq_true rfl) kc_J4_length_8abf5 ?_
  show qq_Go _ hp 0 0 0 [(0, .ref b)] [] _ _
  refine qq_aload_n dJ4_length_8abf5_0 rfl 0 rfl ?_
  refine qq_callSU (bc := 0) (bs := 0) (mc := 0) (ms := 0) (as := []) (rest := []) (o := b) (ci := 1) dJ4_length_8abf5_1 h3 rfl (mt_len5 hp _ _ _ _ h3) rfl kl_J4_343 km_J5_length_8abf5 kp_J4 kn_J5_length_8abf5 ki_J5 kc_J5_length_8abf5 (by decide) kd_J5_length_8abf5 rfl (by decide) (by decide) (Nat.le_of_ble_eq_true rfl) (fun v H1 hv _ _ => ?_) (fun E hp' zx _ _ => zx.elim)
  obtain ⟨rfl, rfl⟩ := hv
  show qq_Go _ hp 0 0 4 [(0, .ref b)] [.int (Int32.ofNat k)] _ _
  exact qq_iret dJ4_length_8abf5_4 rfl rfl ⟨rfl, rfl⟩
set_option maxRecDepth 4000 in
theorem mt_chkl (hp : qq_H) (k : Nat) (hk : k < 16) : qq_Mt mJ7_checkLength_df160 [.int 0, .int (Int32.ofNat k)] hp 0 0 (fun r hp' => r = none ∧ hp = hp') (fun _ _ => False) := by
  refine qq_met (by decide +kernel) (Nat.le_of_ble_eq_true rfl) (Nat.le_of_ble_eq_true rfl) kc_J7_checkLength_df160 ?_
  show qq_Go _ hp 0 0 0 [(0, .int 0), (1, .int (Int32.ofNat k))] [] _ _
  refine qq_iload_n dJ7_checkLength_df160_0 rfl 1 rfl ?_
  refine qq_iload_n dJ7_checkLength_df160_1 rfl 0 rfl ?_
  refine qq_icmp_ge (tgt := 37) dJ7_checkLength_df160_2 (by decide) (fun _ => ?_) (fun z => absurd (tx_ge (by omega)) z)
  exact qq_vret dJ7_checkLength_df160_37 rfl ⟨rfl, rfl⟩
set_option maxRecDepth 4000 in
theorem mt_cprb (hp : qq_H) (w k : Nat) (g : Nat → Int32) (bg : byt g) (hw : 80 ≤ w) (hwl : w < hp.1) (hk : k < 16) (h4 : hp.2 w = .inl (3, 16, .inl g)) : qq_Mt mJ7_copyOfRangeByte_39247 [.ref w, .int 0, .int (Int32.ofNat k)] hp 1 16 (fun r hp' => r = some (.ref hp.1) ∧ hp'.1 = hp.1 + 1 ∧ ∀ j : Nat, j < hp.1 → hp'.2 j = hp.2 j) (fun _ _ => False) := by
  refine qq_met (by decide +kernel) (Nat.le_of_ble_eq_true rfl) (Nat.le_of_ble_eq_true rfl) kc_J7_copyOfRangeByte_39247 ?_
  show qq_Go _ hp 1 16 0 [(0, .ref w), (1, .int 0), (2, .int (Int32.ofNat k))] [] _ _
  refine qq_iload_n dJ7_copyOfRangeByte_39247_0 rfl 1 rfl ?_
  refine qq_iload_n dJ7_copyOfRangeByte_39247_1 rfl 2 rfl ?_
  refine qq_callS (bc := 1) (bs := 16) (mc := 0) (ms := 0) (as := [.int 0, .int (Int32.ofNat k)]) (rest := []) dJ7_copyOfRangeByte_39247_2 (mt_chkl hp _ (by omega)) rfl kl_J7_343 ks_J7_checkLength_df160 ki_J7 kc_J7_checkLength_df160 kd_J7_checkLength_df160 rfl (by decide) (by decide) (Nat.le_of_ble_eq_true rfl) (fun v H1 hv _ _ => ?_) (fun E hp' zx _ _ => zx.elim)
  obtain ⟨rfl, rfl⟩ := hv
  show qq_Go _ hp 1 16 5 [(0, .ref w), (1, .int 0), (2, .int (Int32.ofNat k))] [] _ _
  refine qq_iload_n dJ7_copyOfRangeByte_39247_5 rfl 2 rfl ?_
  refine qq_iload_n dJ7_copyOfRangeByte_39247_6 rfl 1 rfl ?_
  refine qq_isub dJ7_copyOfRangeByte_39247_7 ?_
  rw [tx_s0]
  refine qq_istore_n (loc' := [(0, .ref w), (1, .int 0), (2, .int (Int32.ofNat k)), (3, .int (Int32.ofNat k))]) dJ7_copyOfRangeByte_39247_8 rfl [1, 2, 3, 0] (Nat.le_of_ble_eq_true rfl) rfl ?_
  refine qq_iload_n dJ7_copyOfRangeByte_39247_9 rfl 3 rfl ?_
  refine qq_newB (bc := 0) (bs := 0) (ms := 16) (n := (Int32.ofNat k)) (N' := k) dJ7_copyOfRangeByte_39247_10 (tx_nn (by omega)) (tx_cl (by omega)) (by omega) (by omega) ?_ ka_byte
  obtain ⟨H2, he2⟩ : ∃ h : qq_H, (hp.1 + 1, va_up hp.2 hp.1 (.inl (3, k, .inl (fun _ => 0)))) = h := ⟨_, rfl⟩
  refine qq_hp (hp2 := H2) he2 ?_
  have zk2 : ∀ j : Nat, j ≠ hp.1 → H2.2 j = hp.2 j := fun j d0 => by rw [← he2]; exact up_o d0 rfl
  have zs2 : H2.1 = hp.1 + 1 := by rw [← he2]
  have q2_0 : H2.2 w = .inl (3, 16, .inl g) := (zk2 w (by omega)).trans h4
  have q2_1 : H2.2 hp.1 = .inl (3, k, .inl (fun _ => 0)) := by rw [← he2]; exact up_p
  have zf2 : ∀ j : Nat, j < hp.1 → H2.2 j = hp.2 j := fun j h0 => (zk2 j (by omega)).trans rfl
  show qq_Go _ H2 0 0 12 [(0, .ref w), (1, .int 0), (2, .int (Int32.ofNat k)), (3, .int (Int32.ofNat k))] [.ref hp.1] _ _
  refine qq_astore (loc' := [(0, .ref w), (1, .int 0), (2, .int (Int32.ofNat k)), (3, .int (Int32.ofNat k)), (4, .ref hp.1)]) dJ7_copyOfRangeByte_39247_12 [1, 2, 3, 4, 0] (Nat.le_of_ble_eq_true rfl) rfl ?_
  refine qq_aload_n dJ7_copyOfRangeByte_39247_14 rfl 0 rfl ?_
  refine qq_iload_n dJ7_copyOfRangeByte_39247_15 rfl 1 rfl ?_
  refine qq_aload dJ7_copyOfRangeByte_39247_16 4 rfl ?_
  refine qq_iconst (v := 0) dJ7_copyOfRangeByte_39247_18 (by decide) ?_
  refine qq_aload_n dJ7_copyOfRangeByte_39247_19 rfl 0 rfl ?_
  refine qq_alen (v := 16) dJ7_copyOfRangeByte_39247_20 q2_0 (Or.inl (by decide)) rfl ?_
  refine qq_iload_n dJ7_copyOfRangeByte_39247_21 rfl 1 rfl ?_
  refine qq_isub dJ7_copyOfRangeByte_39247_22 ?_
  rw [tx_s0]
  refine qq_iload_n dJ7_copyOfRangeByte_39247_23 rfl 3 rfl ?_
  refine qq_callS (bc := 0) (bs := 0) (mc := 0) (ms := 0) (as := [.int 16, .int (Int32.ofNat k)]) (rest := [.int 0, .ref hp.1, .int 0, .ref w]) dJ7_copyOfRangeByte_39247_24 (mt_J9_min_7cf53 H2 _ _) rfl kl_J7_304 ks_J9_min_7cf53 ki_J9 kc_J9_min_7cf53 kd_J9_min_7cf53 rfl (by decide) (by decide) (Nat.le_of_ble_eq_true rfl) (fun v H3 hv _ _ => ?_) (fun E hp' zx _ _ => zx.elim)
  obtain ⟨rfl, rfl⟩ := hv
  rw [tx_min (k := k) (by omega)]
  show qq_Go _ H2 0 0 27 [(0, .ref w), (1, .int 0), (2, .int (Int32.ofNat k)), (3, .int (Int32.ofNat k)), (4, .ref hp.1)] [.int (Int32.ofNat k), .int 0, .ref hp.1, .int 0, .ref w] _ _
  refine qq_cpy dJ7_copyOfRangeByte_39247_27 q2_0 q2_1 (show 80 ≤ _ by omega) kl_J7_150 kz_nat kz_st ki_J10 (by decide) (by decide) (tx_nn (by omega)) (tx_h40 (by omega) (by omega)) (tx_h4 (by omega)) bg (Nat.le_of_ble_eq_true rfl) ?_
  obtain ⟨H4, he4⟩ : ∃ h : qq_H, (H2.1, va_up H2.2 hp.1 (.inl (3, k, .inl (va_cpy g (fun _ => 0) (0 : Int32).toNatClampNeg (0 : Int32).toNatClampNeg (Int32.ofNat k).toNatClampNeg)))) = h := ⟨_, rfl⟩
  refine qq_hp (hp2 := H4) he4 ?_
  have zk4 : ∀ j : Nat, j ≠ hp.1 → H4.2 j = H2.2 j := fun j d0 => by rw [← he4]; exact up_o (by omega) rfl
  have zs4 : H4.1 = hp.1 + 1 := by rw [← he4]; show H2.1 = _; omega
  have q4_0 : H4.2 w = .inl (3, 16, .inl g) := (zk4 w (by omega)).trans q2_0
  have q4_1 : H4.2 hp.1 = .inl (3, k, .inl (va_cpy g (fun _ => 0) (0 : Int32).toNatClampNeg (0 : Int32).toNatClampNeg (Int32.ofNat k).toNatClampNeg)) := by rw [← he4]; exact up_p
  have zf4 : ∀ j : Nat, j < hp.1 → H4.2 j = hp.2 j := fun j h0 => (zk4 j (by omega)).trans (zf2 j h0)
  obtain ⟨g4, hg4⟩ : ∃ gz : Nat → Int32, va_cpy g (fun _ => 0) (0 : Int32).toNatClampNeg (0 : Int32).toNatClampNeg (Int32.ofNat k).toNatClampNeg = gz := ⟨_, rfl⟩
  have bg4 : byt g4 := by rw [← hg4]; exact byt_cpy bg byt0 _ _ _
  rw [hg4] at q4_1
  refine qq_aload dJ7_copyOfRangeByte_39247_30 4 rfl ?_
  exact qq_aret dJ7_copyOfRangeByte_39247_32 rfl (Or.inr ⟨_, rfl⟩) (Or.inr ⟨_, rfl⟩) ⟨rfl, zs4, zf4⟩
set_option maxRecDepth 4000 in
theorem mt_cpr (hp : qq_H) (w k : Nat) (g : Nat → Int32) (bg : byt g) (hw : 80 ≤ w) (hwl : w < hp.1) (hk : k < 16) (h4 : hp.2 w = .inl (3, 16, .inl g)) : qq_Mt mJ7_copyOfRange_39247 [.ref w, .int 0, .int (Int32.ofNat k)] hp 1 16 (fun r hp' => r = some (.ref hp.1) ∧ hp'.1 = hp.1 + 1 ∧ ∀ j : Nat, j < hp.1 → hp'.2 j = hp.2 j) (fun _ _ => False) := by
  refine qq_met (by decide +kernel) (Nat.le_of_ble_eq_true rfl) (Nat.le_of_ble_eq_true rfl) kc_J7_copyOfRange_39247 ?_
  show qq_Go _ hp 1 16 0 [(0, .ref w), (1, .int 0), (2, .int (Int32.ofNat k))] [] _ _
  refine qq_iload_n dJ7_copyOfRange_39247_0 rfl 1 rfl ?_
  refine qq_if_ne (tgt := 10) dJ7_copyOfRange_39247_1 (by decide) (fun z => absurd z (by decide)) (fun _ => ?_)
  refine qq_iload_n dJ7_copyOfRange_39247_4 rfl 2 rfl ?_
  refine qq_aload_n dJ7_copyOfRange_39247_5 rfl 0 rfl ?_
  refine qq_alen (v := 16) dJ7_copyOfRange_39247_6 h4 (Or.inl (by decide)) rfl ?_
  refine qq_icmp_eq (tgt := 17) dJ7_copyOfRange_39247_7 (by decide) (fun z => absurd z (tx_m hk)) (fun _ => ?_)
  refine qq_aload_n dJ7_copyOfRange_39247_10 rfl 0 rfl ?_
  refine qq_iload_n dJ7_copyOfRange_39247_11 rfl 1 rfl ?_
  refine qq_iload_n dJ7_copyOfRange_39247_12 rfl 2 rfl ?_
  refine qq_callS (bc := 0) (bs := 0) (mc := 1) (ms := 16) (as := [.ref w, .int 0, .int (Int32.ofNat k)]) (rest := []) dJ7_copyOfRange_39247_13 (mt_cprb hp _ _ _ bg (by omega) (by omega) (by omega) h4) rfl kl_J7_339 ks_J7_copyOfRangeByte_39247 ki_J7 kc_J7_copyOfRangeByte_39247 kd_J7_copyOfRangeByte_39247 rfl (by decide) (by decide) (Nat.le_of_ble_eq_true rfl) (fun v H1 hv _ _ => ?_) (fun E hp' zx _ _ => zx.elim)
  obtain ⟨rfl, zz1, zk1⟩ := hv
  have zs1 : H1.1 = hp.1 + 1 := by omega
  replace zk1 : ∀ j : Nat, j < hp.1 + 0 → H1.2 j = hp.2 j := fun j a => zk1 j (by omega)
  have q1_0 : H1.2 w = .inl (3, 16, .inl g) := (zk1 w (by omega)).trans h4
  have zf1 : ∀ j : Nat, j < hp.1 → H1.2 j = hp.2 j := fun j h0 => (zk1 j (by omega)).trans rfl
  show qq_Go _ H1 0 0 16 [(0, .ref w), (1, .int 0), (2, .int (Int32.ofNat k))] [.ref hp.1] _ _
  exact qq_aret dJ7_copyOfRange_39247_16 rfl (Or.inr ⟨_, rfl⟩) (Or.inr ⟨_, rfl⟩) ⟨rfl, zs1, zf1⟩
set_option maxRecDepth 4000 in
theorem mt_sti5 (hp : qq_H) (b w k : Nat) (m : Int32) (g : Nat → Int32) (bg : byt g) (hb : 80 ≤ b) (hw : 80 ≤ w) (hne : b ≠ w) (h3 : hp.2 b = .inr (1, [.ref w, .int 0, .int m, .int (Int32.ofNat k)])) (h4 : hp.2 w = .inl (3, 16, .inl g)) (o : Nat) (h0 : hp.2 o = .inr (0, [.null, .int 0, .int 0, .int 0])) (ho : 80 ≤ o) (hob : o ≠ b) (how : o ≠ w) (hol : o < hp.1) (hbl : b < hp.1) (hwl : w < hp.1) (hk : k < 16) : qq_Mt mJ0_init_db425 [.ref o, .ref b, .null] hp 1 16 (fun r hp' => r = none ∧ hp'.1 = hp.1 + 1 ∧ ∀ j : Nat, j < hp.1 → j ≠ o → hp'.2 j = hp.2 j) (fun _ _ => False) := by
  refine qq_met (by decide +kernel) (Nat.le_of_ble_eq_true rfl) (Nat.le_of_ble_eq_true rfl) kc_J0_init_db425 ?_
  show qq_Go _ hp 1 16 0 [(0, .ref o), (1, .ref b), (2, .null)] [] _ _
  refine qq_aload_n dJ0_init_db425_0 rfl 0 rfl ?_
  refine qq_objI dJ0_init_db425_1 kl_J0_1 kn_objI kc_objI (Nat.le_of_ble_eq_true rfl) ?_
  refine qq_aload_n dJ0_init_db425_4 rfl 1 rfl ?_
  refine qq_callU (bc := 1) (bs := 16) (mc := 0) (ms := 0) (as := []) (rest := []) (o := b) (ci := 1) (N := 4) (T := TJ4) (C := RJ4) yJ5_getValue_6d5f1 dJ0_init_db425_5 h3 rfl (mt_getv hp _ _ _ _ h3) rfl rfl kl_J0_552 km_J5_getValue_6d5f1 kq_J5_getValue_6d5f1 kn_J5_getValue_6d5f1 ki_J5 kc_J5_getValue_6d5f1 kd_J5_getValue_6d5f1 kd_J5_getValue_6d5f1 rfl (by decide) (by decide) (Nat.le_of_ble_eq_true rfl) (fun v H1 hv _ _ => ?_) (fun E hp' zx _ _ => zx.elim)
  obtain ⟨rfl, rfl⟩ := hv
  show qq_Go _ hp 1 16 8 [(0, .ref o), (1, .ref b), (2, .null)] [.ref w] _ _
  refine qq_astore_n (loc' := [(0, .ref o), (1, .ref b), (2, .null), (3, .ref w)]) dJ0_init_db425_8 rfl [1, 2, 3, 0] (Nat.le_of_ble_eq_true rfl) rfl ?_
  refine qq_aload_n dJ0_init_db425_9 rfl 1 rfl ?_
  refine qq_callO (bc := 1) (bs := 16) (mc := 0) (ms := 0) (as := []) (rest := []) (o := b) (ci := 1) (N := 4) (T := TJ4) (C := RJ4) yJ5_length_8abf5 dJ0_init_db425_10 h3 rfl (mt_len hp _ _ _ _ h3) rfl kc_J5_length_8abf5 kl_J0_549 km_J5_length_8abf5 kn_J5_length_8abf5 kq_J4_length_8abf5 kn_J4_length_8abf5 ki_J4 kc_J4_length_8abf5 kd_J5_length_8abf5 rfl (by decide) (by decide) (Nat.le_of_ble_eq_true rfl) (fun v H2 hv _ _ => ?_) (fun E hp' zx _ _ => zx.elim)
  obtain ⟨rfl, rfl⟩ := hv
  show qq_Go _ hp 1 16 13 [(0, .ref o), (1, .ref b), (2, .null), (3, .ref w)] [.int (Int32.ofNat k)] _ _
  refine qq_istore (loc' := [(0, .ref o), (1, .ref b), (2, .null), (3, .ref w), (4, .int (Int32.ofNat k))]) dJ0_init_db425_13 [1, 2, 3, 4, 0] (Nat.le_of_ble_eq_true rfl) rfl ?_
  refine qq_aload_n dJ0_init_db425_15 rfl 1 rfl ?_
  refine qq_callU (bc := 1) (bs := 16) (mc := 0) (ms := 0) (as := []) (rest := []) (o := b) (ci := 1) (N := 4) (T := TJ4) (C := RJ4) yJ5_isLatin1_aae02 dJ0_init_db425_16 h3 rfl (mt_lat hp _ _ _ _ h3) rfl rfl kl_J0_1047 km_J5_isLatin1_aae02 kq_J5_isLatin1_aae02 kn_J5_isLatin1_aae02 ki_J5 kc_J5_isLatin1_aae02 kd_J5_isLatin1_aae02 kd_J5_isLatin1_aae02 rfl (by decide) (by decide) (Nat.le_of_ble_eq_true rfl) (fun v H3 hv _ _ => ?_) (fun E hp' zx _ _ => zx.elim)
  obtain ⟨rfl, rfl⟩ := hv
  show qq_Go _ hp 1 16 19 [(0, .ref o), (1, .ref b), (2, .null), (3, .ref w), (4, .int (Int32.ofNat k))] [.int 1] _ _
  refine qq_if_eq (tgt := 41) dJ0_init_db425_19 (by decide) (fun z => absurd z (by decide)) (fun _ => ?_)
  refine qq_aload_n dJ0_init_db425_22 rfl 0 rfl ?_
  refine qq_iconst (v := 0) dJ0_init_db425_23 (by decide) ?_
  refine qq_putF (C := RJ0) (T := TJ0) (N := 4) (ty := .byte) dJ0_init_db425_24 h0 (show 80 ≤ _ by omega) rfl 1 (by decide) (Nat.le_of_ble_eq_true rfl) ku_J0 kl_J0_15 tyJ0 tyJ0_ok nmJ0 rfl rfl rfl (by decide +kernel) (fun _ => rfl) (fun _ => rfl) ?_
  obtain ⟨H4, he4⟩ : ∃ h : qq_H, (hp.1, va_up hp.2 o (.inr (0, ([.null, .int 0, .int 0, .int 0] : List Value).set 1 (.int 0)))) = h := ⟨_, rfl⟩
  refine qq_hp (hp2 := H4) he4 ?_
  have zk4 : ∀ j : Nat, j ≠ o → H4.2 j = hp.2 j := fun j d0 => by rw [← he4]; exact up_o (by omega) rfl
  have zs4 : H4.1 = hp.1 + 0 := by rw [← he4]; show hp.1 = _; omega
  have q4_0 : H4.2 b = .inr (1, [.ref w, .int 0, .int m, .int (Int32.ofNat k)]) := (zk4 b (by omega)).trans h3
  have q4_1 : H4.2 w = .inl (3, 16, .inl g) := (zk4 w (by omega)).trans h4
  have q4_2 : H4.2 o = .inr (0, [.null, .int 0, .int 0, .int 0]) := by rw [← he4]; exact up_p
  have zf4 : ∀ j : Nat, j < hp.1 → j ≠ o → H4.2 j = hp.2 j := fun j h0 e0 => (zk4 j (by omega)).trans rfl
  refine qq_aload_n dJ0_init_db425_27 rfl 0 rfl ?_
  refine qq_aload_n dJ0_init_db425_28 rfl 3 rfl ?_
  refine qq_iconst (v := 0) dJ0_init_db425_29 (by decide) ?_
  refine qq_iload dJ0_init_db425_30 4 rfl ?_
  refine qq_callS (bc := 0) (bs := 0) (mc := 1) (ms := 16) (as := [.ref w, .int 0, .int (Int32.ofNat k)]) (rest := [.ref o]) dJ0_init_db425_32 (mt_cpr H4 _ _ _ bg (by omega) (by omega) (by omega) q4_1) rfl kl_J0_54 ks_J7_copyOfRange_39247 ki_J7 kc_J7_copyOfRange_39247 kd_J7_copyOfRange_39247 rfl (by decide) (by decide) (Nat.le_of_ble_eq_true rfl) (fun v H5 hv _ _ => ?_) (fun E hp' zx _ _ => zx.elim)
  obtain ⟨rfl, zz5, zk5⟩ := hv
  rw [zs4] at zz5
  rw [zs4]
  have zs5 : H5.1 = hp.1 + 1 := by omega
  replace zk5 : ∀ j : Nat, j < hp.1 + 0 → H5.2 j = H4.2 j := fun j a => zk5 j (by omega)
  have q5_0 : H5.2 b = .inr (1, [.ref w, .int 0, .int m, .int (Int32.ofNat k)]) := (zk5 b (by omega)).trans q4_0
  have q5_1 : H5.2 w = .inl (3, 16, .inl g) := (zk5 w (by omega)).trans q4_1
  have q5_2 : H5.2 o = .inr (0, [.null, .int 0, .int 0, .int 0]) := (zk5 o (by omega)).trans q4_2
  have zf5 : ∀ j : Nat, j < hp.1 → j ≠ o → H5.2 j = hp.2 j := fun j h0 e0 => (zk5 j (by omega)).trans (zf4 j h0 e0)
  show qq_Go _ H5 0 0 35 [(0, .ref o), (1, .ref b), (2, .null), (3, .ref w), (4, .int (Int32.ofNat k))] [.ref hp.1, .ref o] _ _
  refine qq_putF (C := RJ0) (T := TJ0) (N := 4) (ty := .array .byte) dJ0_init_db425_35 q5_2 (show 80 ≤ _ by omega) rfl 0 (by decide) (Nat.le_of_ble_eq_true rfl) ku_J0 kl_J0_9 tyJ0 tyJ0_ok nmJ0 rfl rfl rfl (by decide +kernel) (fun _ => rfl) (fun _ => rfl) ?_
  obtain ⟨H6, he6⟩ : ∃ h : qq_H, (H5.1, va_up H5.2 o (.inr (0, ([.null, .int 0, .int 0, .int 0] : List Value).set 0 (.ref hp.1)))) = h := ⟨_, rfl⟩
  refine qq_hp (hp2 := H6) he6 ?_
  have zk6 : ∀ j : Nat, j ≠ o → H6.2 j = H5.2 j := fun j d0 => by rw [← he6]; exact up_o (by omega) rfl
  have zs6 : H6.1 = hp.1 + 1 := by rw [← he6]; show H5.1 = _; omega
  have q6_0 : H6.2 b = .inr (1, [.ref w, .int 0, .int m, .int (Int32.ofNat k)]) := (zk6 b (by omega)).trans q5_0
  have q6_1 : H6.2 w = .inl (3, 16, .inl g) := (zk6 w (by omega)).trans q5_1
  have q6_2 : H6.2 o = .inr (0, [.ref hp.1, .int 0, .int 0, .int 0]) := by rw [← he6]; exact up_p
  have zf6 : ∀ j : Nat, j < hp.1 → j ≠ o → H6.2 j = hp.2 j := fun j h0 e0 => (zk6 j (by omega)).trans (zf5 j h0 e0)
  refine qq_goto (tgt := 97) dJ0_init_db425_38 (by decide) ?_
  exact qq_vret dJ0_init_db425_97 rfl ⟨rfl, zs6, zf6⟩
set_option maxRecDepth 4000 in
theorem mt_sti (hp : qq_H) (b w k : Nat) (m : Int32) (g : Nat → Int32) (bg : byt g) (hb : 80 ≤ b) (hw : 80 ≤ w) (hne : b ≠ w) (h3 : hp.2 b = .inr (1, [.ref w, .int 0, .int m, .int (Int32.ofNat k)])) (h4 : hp.2 w = .inl (3, 16, .inl g)) (o : Nat) (h0 : hp.2 o = .inr (0, [.null, .int 0, .int 0, .int 0])) (ho : 80 ≤ o) (hob : o ≠ b) (how : o ≠ w) (hol : o < hp.1) (hbl : b < hp.1) (hwl : w < hp.1) (hk : k < 16) : qq_Mt mJ0_init_81219 [.ref o, .ref b] hp 1 16 (fun r hp' => r = none ∧ hp'.1 = hp.1 + 1 ∧ ∀ j : Nat, j < hp.1 → j ≠ o → hp'.2 j = hp.2 j) (fun _ _ => False) := by
  refine qq_met (by decide +kernel) (Nat.le_of_ble_eq_true rfl) (Nat.le_of_ble_eq_true rfl) kc_J0_init_81219 ?_
  show qq_Go _ hp 1 16 0 [(0, .ref o), (1, .ref b)] [] _ _
  refine qq_aload_n dJ0_init_81219_0 rfl 0 rfl ?_
  refine qq_aload_n dJ0_init_81219_1 rfl 1 rfl ?_
  refine qq_null dJ0_init_81219_2 ?_
  refine qq_callI (bc := 0) (bs := 0) (mc := 1) (ms := 16) (as := [.ref b, .null]) (rest := []) (o := o) dJ0_init_81219_3 (mt_sti5 hp _ _ _ _ _ bg (by omega) (by omega) (by omega) h3 h4 _ h0 (by omega) (by omega) (by omega) (by omega) (by omega) (by omega) (by omega)) rfl rfl rfl kl_J0_489 kn_J0_init_db425 ki_J0 kc_J0_init_db425 kd_J0_init_db425 rfl (by decide) (by decide) (Nat.le_of_ble_eq_true rfl) (fun v H1 hv _ _ => ?_) (fun E hp' zx _ _ => zx.elim)
  obtain ⟨rfl, zz1, zk1⟩ := hv
  have zs1 : H1.1 = hp.1 + 1 := by omega
  replace zk1 : ∀ j : Nat, j < hp.1 + 0 → j ≠ o → H1.2 j = hp.2 j := fun j a b => zk1 j (by omega) b
  have q1_0 : H1.2 b = .inr (1, [.ref w, .int 0, .int m, .int (Int32.ofNat k)]) := (zk1 b (by omega) (by omega)).trans h3
  have q1_1 : H1.2 w = .inl (3, 16, .inl g) := (zk1 w (by omega) (by omega)).trans h4
  have zf1 : ∀ j : Nat, j < hp.1 → j ≠ o → H1.2 j = hp.2 j := fun j h0 e0 => (zk1 j (by omega) (by omega)).trans rfl
  show qq_Go _ H1 0 0 6 [(0, .ref o), (1, .ref b)] [] _ _
  exact qq_vret dJ0_init_81219_6 rfl ⟨rfl, zs1, zf1⟩
set_option maxRecDepth 4000 in
theorem mt_tos (hp : qq_H) (b w k : Nat) (m : Int32) (g : Nat → Int32) (bg : byt g) (hb : 80 ≤ b) (hw : 80 ≤ w) (hne : b ≠ w) (h3 : hp.2 b = .inr (1, [.ref w, .int 0, .int m, .int (Int32.ofNat k)])) (h4 : hp.2 w = .inl (3, 16, .inl g)) (hbl : b < hp.1) (hwl : w < hp.1) (hk : k < 16) : qq_Mt mJ4_toString_0e30d [.ref b] hp 2 20 (fun r hp' => r = some (.ref hp.1) ∧ hp'.1 = hp.1 + 2 ∧ ∀ j : Nat, j < hp.1 → hp'.2 j = hp.2 j) (fun _ _ => False) := by
  refine qq_met (by decide +kernel) (Nat.le_of_ble_eq_true rfl) (Nat.le_of_ble_eq_true rfl) kc_J4_toString_0e30d ?_
  show qq_Go _ hp 2 20 0 [(0, .ref b)] [] _ _
  refine qq_new (ci := 0) (N := 4) (C := RJ0) (T := TJ0) (fs := [.null, .int 0, .int 0, .int 0]) (bc := 1) (bs := 16) (ms := 4) dJ4_toString_0e30d_0 rfl ku_J0 tyJ0 tyJ0_ok kl_J4_18 kx_J0 ki_J0 (by decide +kernel) new_w (by decide) ?_
  obtain ⟨H1, he1⟩ : ∃ h : qq_H, (hp.1 + 1, va_up hp.2 hp.1 (.inr (0, [.null, .int 0, .int 0, .int 0]))) = h := ⟨_, rfl⟩
  refine qq_hp (hp2 := H1) he1 ?_
  have zk1 : ∀ j : Nat, j ≠ hp.1 → H1.2 j = hp.2 j := fun j d0 => by rw [← he1]; exact up_o d0 rfl
  have zs1 : H1.1 = hp.1 + 1 := by rw [← he1]
  have q1_0 : H1.2 b = .inr (1, [.ref w, .int 0, .int m, .int (Int32.ofNat k)]) := (zk1 b (by omega)).trans h3
  have q1_1 : H1.2 w = .inl (3, 16, .inl g) := (zk1 w (by omega)).trans h4
  have q1_2 : H1.2 hp.1 = .inr (0, [.null, .int 0, .int 0, .int 0]) := by rw [← he1]; exact up_p
  have zf1 : ∀ j : Nat, j < hp.1 → H1.2 j = hp.2 j := fun j h0 => (zk1 j (by omega)).trans rfl
  show qq_Go _ H1 1 16 3 [(0, .ref b)] [.ref hp.1] _ _
  refine qq_dup dJ4_toString_0e30d_3 rfl ?_
  refine qq_aload_n dJ4_toString_0e30d_4 rfl 0 rfl ?_
  refine qq_callI (bc := 0) (bs := 0) (mc := 1) (ms := 16) (as := [.ref b]) (rest := [.ref hp.1]) (o := hp.1) dJ4_toString_0e30d_5 (mt_sti H1 _ _ _ _ _ bg (by omega) (by omega) (by omega) q1_0 q1_1 _ q1_2 (by omega) (by omega) (by omega) (by omega) (by omega) (by omega) (by omega)) rfl rfl rfl kl_J4_137 kn_J0_init_81219 ki_J0 kc_J0_init_81219 kd_J0_init_81219 rfl (by decide) (by decide) (Nat.le_of_ble_eq_true rfl) (fun v H2 hv _ _ => ?_) (fun E hp' zx _ _ => zx.elim)
  obtain ⟨rfl, zz2, zk2⟩ := hv
  rw [zs1] at zz2
  have zs2 : H2.1 = hp.1 + 2 := by omega
  replace zk2 : ∀ j : Nat, j < hp.1 + 1 → j ≠ hp.1 → H2.2 j = H1.2 j := fun j a b => zk2 j (by omega) b
  have q2_0 : H2.2 b = .inr (1, [.ref w, .int 0, .int m, .int (Int32.ofNat k)]) := (zk2 b (by omega) (by omega)).trans q1_0
  have q2_1 : H2.2 w = .inl (3, 16, .inl g) := (zk2 w (by omega) (by omega)).trans q1_1
  have zf2 : ∀ j : Nat, j < hp.1 → H2.2 j = hp.2 j := fun j h0 => (zk2 j (by omega) (by omega)).trans (zf1 j h0)
  show qq_Go _ H2 0 0 8 [(0, .ref b)] [.ref hp.1] _ _
  exact qq_aret dJ4_toString_0e30d_8 rfl (Or.inl ⟨_, rfl⟩) (Or.inr ⟨_, rfl⟩) ⟨rfl, zs2, zf2⟩
