/-! texts that were there before -/
def sb20 : Nat → Int32 := fun j => ([45] : List Int32).getD j 0
theorem tst_20 {hp : qq_H} (hE : qq_ex hp) : tst 20 30 1 sb20 hp := ⟨hE.2 20 (by decide) (by decide), hE.2 30 (by decide) (by decide), byt_l (by decide), by decide, by decide⟩
def sb21 : Nat → Int32 := fun j => ([] : List Int32).getD j 0
theorem tst_21 {hp : qq_H} (hE : qq_ex hp) : tst 21 31 0 sb21 hp := ⟨hE.2 21 (by decide) (by decide), hE.2 31 (by decide) (by decide), byt_l (by decide), by decide, by decide⟩
def sb22 : Nat → Int32 := fun j => ([122, 101, 114, 111] : List Int32).getD j 0
theorem tst_22 {hp : qq_H} (hE : qq_ex hp) : tst 22 32 4 sb22 hp := ⟨hE.2 22 (by decide) (by decide), hE.2 32 (by decide) (by decide), byt_l (by decide), by decide, by decide⟩
def sb23 : Nat → Int32 := fun j => ([101, 110, 100, 108, 101, 115, 115] : List Int32).getD j 0
theorem tst_23 {hp : qq_H} (hE : qq_ex hp) : tst 23 33 7 sb23 hp := ⟨hE.2 23 (by decide) (by decide), hE.2 33 (by decide) (by decide), byt_l (by decide), by decide, by decide⟩
def sb24 : Nat → Int32 := fun j => ([112, 111, 119, 101, 114] : List Int32).getD j 0
theorem tst_24 {hp : qq_H} (hE : qq_ex hp) : tst 24 34 5 sb24 hp := ⟨hE.2 24 (by decide) (by decide), hE.2 34 (by decide) (by decide), byt_l (by decide), by decide, by decide⟩
def sb25 : Nat → Int32 := fun j => ([108, 101, 115, 115, 101, 110, 101, 100] : List Int32).getD j 0
theorem tst_25 {hp : qq_H} (hE : qq_ex hp) : tst 25 35 8 sb25 hp := ⟨hE.2 25 (by decide) (by decide), hE.2 35 (by decide) (by decide), byt_l (by decide), by decide, by decide⟩
def sb26 : Nat → Int32 := fun j => ([108, 111, 103, 103, 101, 100] : List Int32).getD j 0
theorem tst_26 {hp : qq_H} (hE : qq_ex hp) : tst 26 36 6 sb26 hp := ⟨hE.2 26 (by decide) (by decide), hE.2 36 (by decide) (by decide), byt_l (by decide), by decide, by decide⟩
def sb27 : Nat → Int32 := fun j => ([98, 97, 99, 107] : List Int32).getD j 0
theorem tst_27 {hp : qq_H} (hE : qq_ex hp) : tst 27 37 4 sb27 hp := ⟨hE.2 27 (by decide) (by decide), hE.2 37 (by decide) (by decide), byt_l (by decide), by decide, by decide⟩
def sb28 : Nat → Int32 := fun j => ([102, 111, 114, 116, 104] : List Int32).getD j 0
theorem tst_28 {hp : qq_H} (hE : qq_ex hp) : tst 28 38 5 sb28 hp := ⟨hE.2 28 (by decide) (by decide), hE.2 38 (by decide) (by decide), byt_l (by decide), by decide, by decide⟩
def sb29 : Nat → Int32 := fun j => ([113, 117, 97, 114, 116, 101, 114] : List Int32).getD j 0
theorem tst_29 {hp : qq_H} (hE : qq_ex hp) : tst 29 39 7 sb29 hp := ⟨hE.2 29 (by decide) (by decide), hE.2 39 (by decide) (by decide), byt_l (by decide), by decide, by decide⟩
def sb40 : Nat → Int32 := fun j => ([] : List Int32).getD j 0
theorem tst_40 {hp : qq_H} (hE : qq_ex hp) : tst 40 50 0 sb40 hp := ⟨hE.2 40 (by decide) (by decide), hE.2 50 (by decide) (by decide), byt_l (by decide), by decide, by decide⟩
def sb41 : Nat → Int32 := fun j => ([45] : List Int32).getD j 0
theorem tst_41 {hp : qq_H} (hE : qq_ex hp) : tst 41 51 1 sb41 hp := ⟨hE.2 41 (by decide) (by decide), hE.2 51 (by decide) (by decide), byt_l (by decide), by decide, by decide⟩
def sb42 : Nat → Int32 := fun j => ([101, 110, 100, 108, 101, 115, 115] : List Int32).getD j 0
theorem tst_42 {hp : qq_H} (hE : qq_ex hp) : tst 42 52 7 sb42 hp := ⟨hE.2 42 (by decide) (by decide), hE.2 52 (by decide) (by decide), byt_l (by decide), by decide, by decide⟩
def sb43 : Nat → Int32 := fun j => ([122, 101, 114, 111] : List Int32).getD j 0
theorem tst_43 {hp : qq_H} (hE : qq_ex hp) : tst 43 53 4 sb43 hp := ⟨hE.2 43 (by decide) (by decide), hE.2 53 (by decide) (by decide), byt_l (by decide), by decide, by decide⟩
def sb44 : Nat → Int32 := fun j => ([113, 117, 97, 114, 116, 101, 114, 32] : List Int32).getD j 0
theorem tst_44 {hp : qq_H} (hE : qq_ex hp) : tst 44 54 8 sb44 hp := ⟨hE.2 44 (by decide) (by decide), hE.2 54 (by decide) (by decide), byt_l (by decide), by decide, by decide⟩
def sb45 : Nat → Int32 := fun j => ([112, 111, 119, 101, 114, 32] : List Int32).getD j 0
theorem tst_45 {hp : qq_H} (hE : qq_ex hp) : tst 45 55 6 sb45 hp := ⟨hE.2 45 (by decide) (by decide), hE.2 55 (by decide) (by decide), byt_l (by decide), by decide, by decide⟩
def sb46 : Nat → Int32 := fun j => ([108, 101, 115, 115, 101, 110, 101, 100, 32] : List Int32).getD j 0
theorem tst_46 {hp : qq_H} (hE : qq_ex hp) : tst 46 56 9 sb46 hp := ⟨hE.2 46 (by decide) (by decide), hE.2 56 (by decide) (by decide), byt_l (by decide), by decide, by decide⟩
def sb47 : Nat → Int32 := fun j => ([108, 111, 103, 103, 101, 100, 32] : List Int32).getD j 0
theorem tst_47 {hp : qq_H} (hE : qq_ex hp) : tst 47 57 7 sb47 hp := ⟨hE.2 47 (by decide) (by decide), hE.2 57 (by decide) (by decide), byt_l (by decide), by decide, by decide⟩
def sb48 : Nat → Int32 := fun j => ([98, 97, 99, 107, 32] : List Int32).getD j 0
theorem tst_48 {hp : qq_H} (hE : qq_ex hp) : tst 48 58 5 sb48 hp := ⟨hE.2 48 (by decide) (by decide), hE.2 58 (by decide) (by decide), byt_l (by decide), by decide, by decide⟩
def sb49 : Nat → Int32 := fun j => ([102, 111, 114, 116, 104, 32] : List Int32).getD j 0
theorem tst_49 {hp : qq_H} (hE : qq_ex hp) : tst 49 59 6 sb49 hp := ⟨hE.2 49 (by decide) (by decide), hE.2 59 (by decide) (by decide), byt_l (by decide), by decide, by decide⟩
theorem tst.g {s v L : Nat} {f : Nat → Int32} {hp H : qq_H} (h : tst s v L f hp) (h80 : 80 ≤ hp.1) (hf : ∀ j : Nat, j < hp.1 → H.2 j = hp.2 j) : tst s v L f H := by
  obtain ⟨h1, h2, h3, h4, h5⟩ := h
  exact ⟨(hf s (by omega)).trans h1, (hf v (by omega)).trans h2, h3, h4, h5⟩
theorem rq_q (n : Int32) : rq (f_X2_qOf n) := by
  have h : (n &&& 2047).toInt = ((n.toBitVec.toNat &&& 2047 : Nat) : Int) := by
    rw [← Int32.toInt_toBitVec, Int32.toBitVec_and, BitVec.toInt_eq_toNat_of_lt]
    · rw [BitVec.toNat_and]; rfl
    · rw [BitVec.toNat_and]
      have := @Nat.and_le_right n.toBitVec.toNat (Int32.toBitVec 2047).toNat
      have e : (Int32.toBitVec 2047).toNat = 2047 := rfl
      omega
  have h2 : n.toBitVec.toNat &&& 2047 ≤ 2047 := Nat.and_le_right
  have e : (1024 : Int32).toInt = 1024 := rfl
  unfold rq f_X2_qOf
  rw [Int32.toInt_sub, h, e, Int.bmod_eq_of_le (by omega) (by omega)]
  omega
theorem cs_g {S : sX} {hp hp' : qq_H} (h : cs_X S hp) (h1 : hp.1 ≤ hp'.1) (h2 : ∀ j : Nat, j < hp.1 → hp'.2 j = hp.2 j) : cs_X S hp' := by
  obtain ⟨a1, a2, a3, a4, a5, a6⟩ := h
  exact ⟨qq_exm a1 h1 (fun k hk => h2 k (by omega)), by omega, (h2 _ (by omega)).trans a3, (h2 _ (by omega)).trans a4, (h2 _ (by omega)).trans a5, (h2 _ (by omega)).trans a6⟩
theorem ms_g {A : qA} {S : sM} {hp hp' : qq_H} (h : ms_M A S hp) (h1 : hp.1 ≤ hp'.1) (h2 : ∀ j : Nat, j < hp.1 → hp'.2 j = hp.2 j) : ms_M A S hp' ∧ fr A hp hp' := by
  obtain ⟨a1, a2, a3, a4, a5, a6, a7, ⟨pf, b1, b2⟩, b3, b4, lg, b5, b6⟩ := h
  obtain ⟨⟨c1, c2⟩, ⟨c3, c4⟩, ⟨c5, c6⟩, c7⟩ := a7
  have hpr : ∀ j, j < 321 → pr j < 419 := fun j hj => by unfold pr; (repeat' split) <;> omega
  refine ⟨⟨qq_exm a1 h1 (fun k hk => h2 k (by omega)), by omega, (h2 _ (by omega)).trans a3, (h2 _ c2).trans a4, (h2 _ c4).trans a5, (h2 _ c6).trans a6, ⟨⟨c1, by omega⟩, ⟨c3, by omega⟩, ⟨c5, by omega⟩, c7⟩, ⟨pf, (h2 _ (by omega)).trans b1, b2⟩, fun j hj => (h2 _ (by have := hpr j hj; omega)).trans (b3 j hj), (h2 _ (by omega)).trans b4, lg, (h2 _ (by omega)).trans b5, fun j r hj hr => ?_⟩, h1, fun j hj _ _ _ _ _ => h2 j hj⟩
  obtain ⟨d1, d2, d3⟩ := b6 j r hj hr
  exact ⟨d1, by omega, (h2 _ d2).trans d3⟩
theorem nm_s {kd q u : Int32} (h : vq kd q u) (h1 : ¬ kd = 1) : vp_in kd 7 ∧ rq q ∧ ∃ (s v L : Nat) (f : Nat → Int32), t_nm kd.toNatClampNeg = some s ∧ 5 ≤ L ∧ L ≤ 9 ∧ ∀ hp, qq_ex hp → tst s v L f hp := by
  rcases h with ⟨rfl, a, b, _⟩ | ⟨rfl, _⟩ | ⟨rfl, a, b, _⟩ | ⟨rfl, a, b, _⟩ | ⟨rfl, a, b, _⟩ | ⟨rfl, a, b, _⟩ | ⟨rfl, a, b, _⟩
  · exact ⟨vp_d (by decide), ⟨by omega, by omega⟩, 44, _, _, _, rfl, by decide, by decide, fun hp hE => tst_44 hE⟩
  · exact absurd rfl h1
  · exact ⟨vp_d (by decide), ⟨by omega, by omega⟩, 45, _, _, _, rfl, by decide, by decide, fun hp hE => tst_45 hE⟩
  · exact ⟨vp_d (by decide), ⟨by omega, by omega⟩, 46, _, _, _, rfl, by decide, by decide, fun hp hE => tst_46 hE⟩
  · exact ⟨vp_d (by decide), ⟨by omega, by omega⟩, 47, _, _, _, rfl, by decide, by decide, fun hp hE => tst_47 hE⟩
  · exact ⟨vp_d (by decide), ⟨by omega, by omega⟩, 48, _, _, _, rfl, by decide, by decide, fun hp hE => tst_48 hE⟩
  · exact ⟨vp_d (by decide), ⟨by omega, by omega⟩, 49, _, _, _, rfl, by decide, by decide, fun hp hE => tst_49 hE⟩
set_option maxRecDepth 4000 in
theorem mt_nameOf (hp : qq_H) (kd : Int32) (hE : qq_ex hp) : qq_Mt mX2_nameOf [.int kd] hp 0 0 (fun r hp' => ∃ (s v L : Nat) (f : Nat → Int32), r = some (.ref s) ∧ tst s v L f hp ∧ 4 ≤ L ∧ L ≤ 8 ∧ hp = hp') (fun _ _ => False) := by
  refine qq_met (by decide +kernel) (Nat.le_of_ble_eq_true rfl) (Nat.le_of_ble_eq_true rfl) kc_X2_nameOf ?_
  show qq_Go _ hp 0 0 0 [(0, .int kd)] [] _ _
  refine qq_iload_n dX2_nameOf_0 rfl 0 rfl ?_
  by_cases zc1 : kd = 2
  · refine qq_tabIn (off := 35) (tgt := 36) dX2_nameOf_1 (by rw [zc1]; decide) (by rw [zc1]; decide) (by rw [zc1]; decide) (by decide) ?_
    refine qq_ldcs (tx := "power") (a := 24) dX2_nameOf_36 (by decide +kernel) ?_
    have y1 : tst 24 34 5 sb24 hp := tst_24 hE
    exact qq_aret dX2_nameOf_38 rfl (Or.inl ⟨_, rfl⟩) (Or.inr ⟨_, rfl⟩) ⟨_, _, _, _, rfl, tst_24 hE, by decide, by decide, rfl⟩
  · by_cases zc2 : kd = 3
    · refine qq_tabIn (off := 38) (tgt := 39) dX2_nameOf_1 (by rw [zc2]; decide) (by rw [zc2]; decide) (by rw [zc2]; decide) (by decide) ?_
      refine qq_ldcs (tx := "lessened") (a := 25) dX2_nameOf_39 (by decide +kernel) ?_
      have y2 : tst 25 35 8 sb25 hp := tst_25 hE
      exact qq_aret dX2_nameOf_41 rfl (Or.inl ⟨_, rfl⟩) (Or.inr ⟨_, rfl⟩) ⟨_, _, _, _, rfl, tst_25 hE, by decide, by decide, rfl⟩
    · by_cases zc3 : kd = 4
      · refine qq_tabIn (off := 41) (tgt := 42) dX2_nameOf_1 (by rw [zc3]; decide) (by rw [zc3]; decide) (by rw [zc3]; decide) (by decide) ?_
        refine qq_ldcs (tx := "logged") (a := 26) dX2_nameOf_42 (by decide +kernel) ?_
        have y3 : tst 26 36 6 sb26 hp := tst_26 hE
        exact qq_aret dX2_nameOf_44 rfl (Or.inl ⟨_, rfl⟩) (Or.inr ⟨_, rfl⟩) ⟨_, _, _, _, rfl, tst_26 hE, by decide, by decide, rfl⟩
      · by_cases zc4 : kd = 5
        · refine qq_tabIn (off := 44) (tgt := 45) dX2_nameOf_1 (by rw [zc4]; decide) (by rw [zc4]; decide) (by rw [zc4]; decide) (by decide) ?_
          refine qq_ldcs (tx := "back") (a := 27) dX2_nameOf_45 (by decide +kernel) ?_
          have y4 : tst 27 37 4 sb27 hp := tst_27 hE
          exact qq_aret dX2_nameOf_47 rfl (Or.inl ⟨_, rfl⟩) (Or.inr ⟨_, rfl⟩) ⟨_, _, _, _, rfl, tst_27 hE, by decide, by decide, rfl⟩
        · by_cases zc5 : kd = 6
          · refine qq_tabIn (off := 47) (tgt := 48) dX2_nameOf_1 (by rw [zc5]; decide) (by rw [zc5]; decide) (by rw [zc5]; decide) (by decide) ?_
            refine qq_ldcs (tx := "forth") (a := 28) dX2_nameOf_48 (by decide +kernel) ?_
            have y5 : tst 28 38 5 sb28 hp := tst_28 hE
            exact qq_aret dX2_nameOf_50 rfl (Or.inl ⟨_, rfl⟩) (Or.inr ⟨_, rfl⟩) ⟨_, _, _, _, rfl, tst_28 hE, by decide, by decide, rfl⟩
          · refine qq_tabOut (tgt := 51) dX2_nameOf_1 (by have g0 : ¬ kd.toInt = 2 := qm_toInt_ne zc1; have g1 : ¬ kd.toInt = 3 := qm_toInt_ne zc2; have g2 : ¬ kd.toInt = 4 := qm_toInt_ne zc3; have g3 : ¬ kd.toInt = 5 := qm_toInt_ne zc4; have g4 : ¬ kd.toInt = 6 := qm_toInt_ne zc5; omega) (by decide) ?_
            refine qq_ldcs (tx := "quarter") (a := 29) dX2_nameOf_51 (by decide +kernel) ?_
            have y6 : tst 29 39 7 sb29 hp := tst_29 hE
            exact qq_aret dX2_nameOf_53 rfl (Or.inl ⟨_, rfl⟩) (Or.inr ⟨_, rfl⟩) ⟨_, _, _, _, rfl, tst_29 hE, by decide, by decide, rfl⟩
set_option maxRecDepth 4000 in
theorem mt_textOf (hp : qq_H) (n : Int32) (hE : qq_ex hp) : qq_Mt mX2_textOf [.int n] hp 4 40 (fun r hp' => r = some (.ref (hp.1 + 2)) ∧ hp'.1 = hp.1 + 4 ∧ ∀ j : Nat, j < hp.1 → hp'.2 j = hp.2 j) (fun _ _ => False) := by
  refine qq_met (by decide +kernel) (Nat.le_of_ble_eq_true rfl) (Nat.le_of_ble_eq_true rfl) kc_X2_textOf ?_
  show qq_Go _ hp 4 40 0 [(0, .int n)] [] _ _
  have h80 := hE.1
  refine qq_new (ci := 1) (N := 4) (C := RJ4) (T := TJ4) (fs := [.null, .int 0, .int 0, .int 0]) (bc := 3) (bs := 36) (ms := 4) dX2_textOf_0 rfl ku_J4 tyJ4 tyJ4_ok kl_X2_37 kx_J4 ki_J4 (by decide +kernel) new_w (by decide) ?_
  obtain ⟨H1, he1⟩ : ∃ h : qq_H, (hp.1 + 1, va_up hp.2 hp.1 (.inr (1, [.null, .int 0, .int 0, .int 0]))) = h := ⟨_, rfl⟩
  refine qq_hp (hp2 := H1) he1 ?_
  have zk1 : ∀ j : Nat, j ≠ hp.1 → H1.2 j = hp.2 j := fun j d0 => by rw [← he1]; exact up_o d0 rfl
  have zs1 : H1.1 = hp.1 + 1 := by rw [← he1]
  have q1_0 : H1.2 7 = .inl (3, 100, .inl t_d1) := (zk1 7 (by omega)).trans (hE.2 7 (by decide) (by decide))
  have q1_1 : H1.2 8 = .inl (3, 100, .inl t_d2) := (zk1 8 (by omega)).trans (hE.2 8 (by decide) (by decide))
  have q1_2 : H1.2 hp.1 = .inr (1, [.null, .int 0, .int 0, .int 0]) := by rw [← he1]; exact up_p
  have zf1 : ∀ j : Nat, j < hp.1 → H1.2 j = hp.2 j := fun j h0 => (zk1 j (by omega)).trans rfl
  show qq_Go _ H1 3 36 3 [(0, .int n)] [.ref hp.1] _ _
  refine qq_dup dX2_textOf_3 rfl ?_
  refine qq_callI (bc := 2) (bs := 20) (mc := 1) (ms := 16) (as := []) (rest := [.ref hp.1]) (o := hp.1) dX2_textOf_4 (mt_sbi H1 _ (by omega) (by omega) q1_2) rfl rfl rfl kl_X2_39 kn_J4_init_da8c8 ki_J4 kc_J4_init_da8c8 kd_J4_init_da8c8 rfl (by decide) (by decide) (Nat.le_of_ble_eq_true rfl) (fun v H2 hv _ _ => ?_) (fun E hp' zx _ _ => zx.elim)
  obtain ⟨rfl, ⟨qb2, g2, qw2, bg2⟩, zz2, zk2⟩ := hv
  rw [zs1] at qb2 qw2
  have zs2 : H2.1 = hp.1 + 2 := by omega
  replace zk2 : ∀ j : Nat, j < hp.1 + 1 → j ≠ hp.1 → H2.2 j = H1.2 j := fun j a b => zk2 j (by omega) b
  have q2_0 : H2.2 7 = .inl (3, 100, .inl t_d1) := (zk2 7 (by omega) (by omega)).trans q1_0
  have q2_1 : H2.2 8 = .inl (3, 100, .inl t_d2) := (zk2 8 (by omega) (by omega)).trans q1_1
  have zf2 : ∀ j : Nat, j < hp.1 → H2.2 j = hp.2 j := fun j h0 => (zk2 j (by omega) (by omega)).trans (zf1 j h0)
  show qq_Go _ H2 2 20 7 [(0, .int n)] [.ref hp.1] _ _
  refine qq_astore_n (loc' := [(0, .int n), (1, .ref hp.1)]) dX2_textOf_7 rfl [1, 0] (Nat.le_of_ble_eq_true rfl) rfl ?_
  refine qq_iload_n dX2_textOf_8 rfl 0 rfl ?_
  refine qq_callS (bc := 2) (bs := 20) (mc := 0) (ms := 0) (as := [.int n]) (rest := []) dX2_textOf_9 (mt_X2_isNought H2 n) rfl kl_X2_31 ks_X2_isNought ki_X2 kc_X2_isNought kd_X2_isNought rfl (by decide) (by decide) (Nat.le_of_ble_eq_true rfl) (fun v H3 hv _ _ => ?_) (fun E hp' zx _ _ => zx.elim)
  obtain ⟨rfl, rfl⟩ := hv
  show qq_Go _ H2 2 20 12 [(0, .int n), (1, .ref hp.1)] [.int (f_X2_isNought n)] _ _
  refine qq_if_ne (tgt := 23) dX2_textOf_12 (by decide) (fun zc1 => ?_) (fun zc1 => ?_)
  · refine qq_aload_n dX2_textOf_23 rfl 1 rfl ?_
    refine qq_iload_n dX2_textOf_24 rfl 0 rfl ?_
    refine qq_callS (bc := 2) (bs := 20) (mc := 0) (ms := 0) (as := [.int n]) (rest := [.ref hp.1]) dX2_textOf_25 (mt_X2_isUnder H2 n) rfl kl_X2_24 ks_X2_isUnder ki_X2 kc_X2_isUnder kd_X2_isUnder rfl (by decide) (by decide) (Nat.le_of_ble_eq_true rfl) (fun v H4 hv _ _ => ?_) (fun E hp' zx _ _ => zx.elim)
    obtain ⟨rfl, rfl⟩ := hv
    show qq_Go _ H2 2 20 28 [(0, .int n), (1, .ref hp.1)] [.int (f_X2_isUnder n), .ref hp.1] _ _
    refine qq_if_eq (tgt := 36) dX2_textOf_28 (by decide) (fun zc2 => ?_) (fun zc2 => ?_)
    · refine qq_ldcs (tx := "") (a := 21) dX2_textOf_36 (by decide +kernel) ?_
      have y1 : tst 21 31 0 sb21 H2 := (tst_21 hE).g hE.1 zf2
      refine qq_callVS (bc := 2) (bs := 20) (mc := 0) (ms := 0) (as := [.ref 21]) (rest := []) (o := hp.1) (ci := 1) (N := 4) (T := TJ4) dX2_textOf_38 qb2 rfl (mt_aps H2 _ _ _ _ (by omega) (by omega) y1.1 y1.2.1 y1.2.2.1 _ _ _ _ _ bg2 (by omega) (by omega) (by omega) qb2 qw2 (by omega)) rfl kl_X2_44 kn_J4_append_15ec4 ke_J4_append_15ec4 ki_J4 kc_J4_append_15ec4 kd_J4_append_15ec4 rfl (by decide) (by decide) (Nat.le_of_ble_eq_true rfl) (fun v H5 hv _ _ => ?_) (fun E hp' zx _ _ => zx.elim)
      obtain ⟨rfl, ⟨qb5, g5, qw5, bg5⟩, zz5, zk5⟩ := hv
      have zs5 : H5.1 = hp.1 + 2 := by omega
      have q5_0 : H5.2 7 = .inl (3, 100, .inl t_d1) := (zk5 7 (by omega) (by omega)).trans q2_0
      have q5_1 : H5.2 8 = .inl (3, 100, .inl t_d2) := (zk5 8 (by omega) (by omega)).trans q2_1
      have q5_2 : H5.2 21 = .inr (0, [.ref 31, .int 0]) := (zk5 21 (by omega) (by omega)).trans y1.1
      have q5_3 : H5.2 31 = .inl (3, 0, .inl sb21) := (zk5 31 (by omega) (by omega)).trans y1.2.1
      have zf5 : ∀ j : Nat, j < hp.1 → H5.2 j = hp.2 j := fun j h0 => (zk5 j (by omega) (by omega)).trans (zf2 j h0)
      show qq_Go _ H5 2 20 41 [(0, .int n), (1, .ref hp.1)] [.ref hp.1] _ _
      refine qq_pop dX2_textOf_41 rfl ?_
      refine qq_aload_n dX2_textOf_42 rfl 1 rfl ?_
      refine qq_iload_n dX2_textOf_43 rfl 0 rfl ?_
      refine qq_callS (bc := 2) (bs := 20) (mc := 0) (ms := 0) (as := [.int n]) (rest := [.ref hp.1]) dX2_textOf_44 (mt_X2_isNought H5 n) rfl kl_X2_31 ks_X2_isNought ki_X2 kc_X2_isNought kd_X2_isNought rfl (by decide) (by decide) (Nat.le_of_ble_eq_true rfl) (fun v H6 hv _ _ => ?_) (fun E hp' zx _ _ => zx.elim)
      obtain ⟨rfl, rfl⟩ := hv
      show qq_Go _ H5 2 20 47 [(0, .int n), (1, .ref hp.1)] [.int (f_X2_isNought n), .ref hp.1] _ _
      refine qq_if_eq (tgt := 55) dX2_textOf_47 (by decide) (fun zc3 => ?_) (fun zc3 => ?_)
      · refine qq_ldcs (tx := "endless") (a := 23) dX2_textOf_55 (by decide +kernel) ?_
        have y2 : tst 23 33 7 sb23 H5 := (tst_23 hE).g hE.1 zf5
        refine qq_callVS (bc := 2) (bs := 20) (mc := 0) (ms := 0) (as := [.ref 23]) (rest := []) (o := hp.1) (ci := 1) (N := 4) (T := TJ4) dX2_textOf_57 qb5 rfl (mt_aps H5 _ _ _ _ (by omega) (by omega) y2.1 y2.2.1 y2.2.2.1 _ _ _ _ _ bg5 (by omega) (by omega) (by omega) qb5 qw5 (by omega)) rfl kl_X2_44 kn_J4_append_15ec4 ke_J4_append_15ec4 ki_J4 kc_J4_append_15ec4 kd_J4_append_15ec4 rfl (by decide) (by decide) (Nat.le_of_ble_eq_true rfl) (fun v H7 hv _ _ => ?_) (fun E hp' zx _ _ => zx.elim)
        obtain ⟨rfl, ⟨qb7, g7, qw7, bg7⟩, zz7, zk7⟩ := hv
        have zs7 : H7.1 = hp.1 + 2 := by omega
        have q7_0 : H7.2 7 = .inl (3, 100, .inl t_d1) := (zk7 7 (by omega) (by omega)).trans q5_0
        have q7_1 : H7.2 8 = .inl (3, 100, .inl t_d2) := (zk7 8 (by omega) (by omega)).trans q5_1
        have q7_2 : H7.2 21 = .inr (0, [.ref 31, .int 0]) := (zk7 21 (by omega) (by omega)).trans q5_2
        have q7_3 : H7.2 31 = .inl (3, 0, .inl sb21) := (zk7 31 (by omega) (by omega)).trans q5_3
        have q7_4 : H7.2 23 = .inr (0, [.ref 33, .int 0]) := (zk7 23 (by omega) (by omega)).trans y2.1
        have q7_5 : H7.2 33 = .inl (3, 7, .inl sb23) := (zk7 33 (by omega) (by omega)).trans y2.2.1
        have zf7 : ∀ j : Nat, j < hp.1 → H7.2 j = hp.2 j := fun j h0 => (zk7 j (by omega) (by omega)).trans (zf5 j h0)
        show qq_Go _ H7 2 20 60 [(0, .int n), (1, .ref hp.1)] [.ref hp.1] _ _
        refine qq_pop dX2_textOf_60 rfl ?_
        refine qq_aload_n dX2_textOf_61 rfl 1 rfl ?_
        refine qq_callVS (bc := 0) (bs := 0) (mc := 2) (ms := 20) (as := []) (rest := []) (o := hp.1) (ci := 1) (N := 4) (T := TJ4) dX2_textOf_62 qb7 rfl (mt_tos H7 _ _ _ _ _ bg7 (by omega) (by omega) (by omega) qb7 qw7 (by omega) (by omega) (by omega)) rfl kl_X2_52 kn_J4_toString_0e30d ke_J4_toString_0e30d ki_J4 kc_J4_toString_0e30d kd_J4_toString_0e30d rfl (by decide) (by decide) (Nat.le_of_ble_eq_true rfl) (fun v H8 hv _ _ => ?_) (fun E hp' zx _ _ => zx.elim)
        obtain ⟨rfl, zz8, zk8⟩ := hv
        rw [zs7] at zz8
        rw [zs7]
        have zs8 : H8.1 = hp.1 + 4 := by omega
        replace zk8 : ∀ j : Nat, j < hp.1 + 2 → H8.2 j = H7.2 j := fun j a => zk8 j (by omega)
        have q8_0 : H8.2 7 = .inl (3, 100, .inl t_d1) := (zk8 7 (by omega)).trans q7_0
        have q8_1 : H8.2 8 = .inl (3, 100, .inl t_d2) := (zk8 8 (by omega)).trans q7_1
        have q8_2 : H8.2 21 = .inr (0, [.ref 31, .int 0]) := (zk8 21 (by omega)).trans q7_2
        have q8_3 : H8.2 31 = .inl (3, 0, .inl sb21) := (zk8 31 (by omega)).trans q7_3
        have q8_4 : H8.2 23 = .inr (0, [.ref 33, .int 0]) := (zk8 23 (by omega)).trans q7_4
        have q8_5 : H8.2 33 = .inl (3, 7, .inl sb23) := (zk8 33 (by omega)).trans q7_5
        have q8_6 : H8.2 hp.1 = .inr (1, [.ref (hp.1 + 1), .int 0, .int 0, .int (Int32.ofNat ((0 + 0) + 7))]) := (zk8 hp.1 (by omega)).trans qb7
        have q8_7 : H8.2 (hp.1 + 1) = .inl (3, 16, .inl g7) := (zk8 (hp.1 + 1) (by omega)).trans qw7
        have zf8 : ∀ j : Nat, j < hp.1 → H8.2 j = hp.2 j := fun j h0 => (zk8 j (by omega)).trans (zf7 j h0)
        show qq_Go _ H8 0 0 65 [(0, .int n), (1, .ref hp.1)] [.ref (hp.1 + 2)] _ _
        exact qq_aret dX2_textOf_65 rfl (Or.inl ⟨_, rfl⟩) (Or.inr ⟨_, rfl⟩) ⟨rfl, zs8, zf8⟩
      · refine qq_ldcs (tx := "zero") (a := 22) dX2_textOf_50 (by decide +kernel) ?_
        have y3 : tst 22 32 4 sb22 H5 := (tst_22 hE).g hE.1 zf5
        refine qq_goto (tgt := 57) dX2_textOf_52 (by decide) ?_
        refine qq_callVS (bc := 2) (bs := 20) (mc := 0) (ms := 0) (as := [.ref 22]) (rest := []) (o := hp.1) (ci := 1) (N := 4) (T := TJ4) dX2_textOf_57 qb5 rfl (mt_aps H5 _ _ _ _ (by omega) (by omega) y3.1 y3.2.1 y3.2.2.1 _ _ _ _ _ bg5 (by omega) (by omega) (by omega) qb5 qw5 (by omega)) rfl kl_X2_44 kn_J4_append_15ec4 ke_J4_append_15ec4 ki_J4 kc_J4_append_15ec4 kd_J4_append_15ec4 rfl (by decide) (by decide) (Nat.le_of_ble_eq_true rfl) (fun v H9 hv _ _ => ?_) (fun E hp' zx _ _ => zx.elim)
        obtain ⟨rfl, ⟨qb9, g9, qw9, bg9⟩, zz9, zk9⟩ := hv
        have zs9 : H9.1 = hp.1 + 2 := by omega
        have q9_0 : H9.2 7 = .inl (3, 100, .inl t_d1) := (zk9 7 (by omega) (by omega)).trans q5_0
        have q9_1 : H9.2 8 = .inl (3, 100, .inl t_d2) := (zk9 8 (by omega) (by omega)).trans q5_1
        have q9_2 : H9.2 21 = .inr (0, [.ref 31, .int 0]) := (zk9 21 (by omega) (by omega)).trans q5_2
        have q9_3 : H9.2 31 = .inl (3, 0, .inl sb21) := (zk9 31 (by omega) (by omega)).trans q5_3
        have q9_4 : H9.2 22 = .inr (0, [.ref 32, .int 0]) := (zk9 22 (by omega) (by omega)).trans y3.1
        have q9_5 : H9.2 32 = .inl (3, 4, .inl sb22) := (zk9 32 (by omega) (by omega)).trans y3.2.1
        have zf9 : ∀ j : Nat, j < hp.1 → H9.2 j = hp.2 j := fun j h0 => (zk9 j (by omega) (by omega)).trans (zf5 j h0)
        show qq_Go _ H9 2 20 60 [(0, .int n), (1, .ref hp.1)] [.ref hp.1] _ _
        refine qq_pop dX2_textOf_60 rfl ?_
        refine qq_aload_n dX2_textOf_61 rfl 1 rfl ?_
        refine qq_callVS (bc := 0) (bs := 0) (mc := 2) (ms := 20) (as := []) (rest := []) (o := hp.1) (ci := 1) (N := 4) (T := TJ4) dX2_textOf_62 qb9 rfl (mt_tos H9 _ _ _ _ _ bg9 (by omega) (by omega) (by omega) qb9 qw9 (by omega) (by omega) (by omega)) rfl kl_X2_52 kn_J4_toString_0e30d ke_J4_toString_0e30d ki_J4 kc_J4_toString_0e30d kd_J4_toString_0e30d rfl (by decide) (by decide) (Nat.le_of_ble_eq_true rfl) (fun v H10 hv _ _ => ?_) (fun E hp' zx _ _ => zx.elim)
        obtain ⟨rfl, zz10, zk10⟩ := hv
        rw [zs9] at zz10
        rw [zs9]
        have zs10 : H10.1 = hp.1 + 4 := by omega
        replace zk10 : ∀ j : Nat, j < hp.1 + 2 → H10.2 j = H9.2 j := fun j a => zk10 j (by omega)
        have q10_0 : H10.2 7 = .inl (3, 100, .inl t_d1) := (zk10 7 (by omega)).trans q9_0
        have q10_1 : H10.2 8 = .inl (3, 100, .inl t_d2) := (zk10 8 (by omega)).trans q9_1
        have q10_2 : H10.2 21 = .inr (0, [.ref 31, .int 0]) := (zk10 21 (by omega)).trans q9_2
        have q10_3 : H10.2 31 = .inl (3, 0, .inl sb21) := (zk10 31 (by omega)).trans q9_3
        have q10_4 : H10.2 22 = .inr (0, [.ref 32, .int 0]) := (zk10 22 (by omega)).trans q9_4
        have q10_5 : H10.2 32 = .inl (3, 4, .inl sb22) := (zk10 32 (by omega)).trans q9_5
        have q10_6 : H10.2 hp.1 = .inr (1, [.ref (hp.1 + 1), .int 0, .int 0, .int (Int32.ofNat ((0 + 0) + 4))]) := (zk10 hp.1 (by omega)).trans qb9
        have q10_7 : H10.2 (hp.1 + 1) = .inl (3, 16, .inl g9) := (zk10 (hp.1 + 1) (by omega)).trans qw9
        have zf10 : ∀ j : Nat, j < hp.1 → H10.2 j = hp.2 j := fun j h0 => (zk10 j (by omega)).trans (zf9 j h0)
        show qq_Go _ H10 0 0 65 [(0, .int n), (1, .ref hp.1)] [.ref (hp.1 + 2)] _ _
        exact qq_aret dX2_textOf_65 rfl (Or.inl ⟨_, rfl⟩) (Or.inr ⟨_, rfl⟩) ⟨rfl, zs10, zf10⟩
    · refine qq_ldcs (tx := "-") (a := 20) dX2_textOf_31 (by decide +kernel) ?_
      have y4 : tst 20 30 1 sb20 H2 := (tst_20 hE).g hE.1 zf2
      refine qq_goto (tgt := 38) dX2_textOf_33 (by decide) ?_
      refine qq_callVS (bc := 2) (bs := 20) (mc := 0) (ms := 0) (as := [.ref 20]) (rest := []) (o := hp.1) (ci := 1) (N := 4) (T := TJ4) dX2_textOf_38 qb2 rfl (mt_aps H2 _ _ _ _ (by omega) (by omega) y4.1 y4.2.1 y4.2.2.1 _ _ _ _ _ bg2 (by omega) (by omega) (by omega) qb2 qw2 (by omega)) rfl kl_X2_44 kn_J4_append_15ec4 ke_J4_append_15ec4 ki_J4 kc_J4_append_15ec4 kd_J4_append_15ec4 rfl (by decide) (by decide) (Nat.le_of_ble_eq_true rfl) (fun v H11 hv _ _ => ?_) (fun E hp' zx _ _ => zx.elim)
      obtain ⟨rfl, ⟨qb11, g11, qw11, bg11⟩, zz11, zk11⟩ := hv
      have zs11 : H11.1 = hp.1 + 2 := by omega
      have q11_0 : H11.2 7 = .inl (3, 100, .inl t_d1) := (zk11 7 (by omega) (by omega)).trans q2_0
      have q11_1 : H11.2 8 = .inl (3, 100, .inl t_d2) := (zk11 8 (by omega) (by omega)).trans q2_1
      have q11_2 : H11.2 20 = .inr (0, [.ref 30, .int 0]) := (zk11 20 (by omega) (by omega)).trans y4.1
      have q11_3 : H11.2 30 = .inl (3, 1, .inl sb20) := (zk11 30 (by omega) (by omega)).trans y4.2.1
      have zf11 : ∀ j : Nat, j < hp.1 → H11.2 j = hp.2 j := fun j h0 => (zk11 j (by omega) (by omega)).trans (zf2 j h0)
      show qq_Go _ H11 2 20 41 [(0, .int n), (1, .ref hp.1)] [.ref hp.1] _ _
      refine qq_pop dX2_textOf_41 rfl ?_
      refine qq_aload_n dX2_textOf_42 rfl 1 rfl ?_
      refine qq_iload_n dX2_textOf_43 rfl 0 rfl ?_
      refine qq_callS (bc := 2) (bs := 20) (mc := 0) (ms := 0) (as := [.int n]) (rest := [.ref hp.1]) dX2_textOf_44 (mt_X2_isNought H11 n) rfl kl_X2_31 ks_X2_isNought ki_X2 kc_X2_isNought kd_X2_isNought rfl (by decide) (by decide) (Nat.le_of_ble_eq_true rfl) (fun v H12 hv _ _ => ?_) (fun E hp' zx _ _ => zx.elim)
      obtain ⟨rfl, rfl⟩ := hv
      show qq_Go _ H11 2 20 47 [(0, .int n), (1, .ref hp.1)] [.int (f_X2_isNought n), .ref hp.1] _ _
      refine qq_if_eq (tgt := 55) dX2_textOf_47 (by decide) (fun zc4 => ?_) (fun zc4 => ?_)
      · refine qq_ldcs (tx := "endless") (a := 23) dX2_textOf_55 (by decide +kernel) ?_
        have y5 : tst 23 33 7 sb23 H11 := (tst_23 hE).g hE.1 zf11
        refine qq_callVS (bc := 2) (bs := 20) (mc := 0) (ms := 0) (as := [.ref 23]) (rest := []) (o := hp.1) (ci := 1) (N := 4) (T := TJ4) dX2_textOf_57 qb11 rfl (mt_aps H11 _ _ _ _ (by omega) (by omega) y5.1 y5.2.1 y5.2.2.1 _ _ _ _ _ bg11 (by omega) (by omega) (by omega) qb11 qw11 (by omega)) rfl kl_X2_44 kn_J4_append_15ec4 ke_J4_append_15ec4 ki_J4 kc_J4_append_15ec4 kd_J4_append_15ec4 rfl (by decide) (by decide) (Nat.le_of_ble_eq_true rfl) (fun v H13 hv _ _ => ?_) (fun E hp' zx _ _ => zx.elim)
        obtain ⟨rfl, ⟨qb13, g13, qw13, bg13⟩, zz13, zk13⟩ := hv
        have zs13 : H13.1 = hp.1 + 2 := by omega
        have q13_0 : H13.2 7 = .inl (3, 100, .inl t_d1) := (zk13 7 (by omega) (by omega)).trans q11_0
        have q13_1 : H13.2 8 = .inl (3, 100, .inl t_d2) := (zk13 8 (by omega) (by omega)).trans q11_1
        have q13_2 : H13.2 20 = .inr (0, [.ref 30, .int 0]) := (zk13 20 (by omega) (by omega)).trans q11_2
        have q13_3 : H13.2 30 = .inl (3, 1, .inl sb20) := (zk13 30 (by omega) (by omega)).trans q11_3
        have q13_4 : H13.2 23 = .inr (0, [.ref 33, .int 0]) := (zk13 23 (by omega) (by omega)).trans y5.1
        have q13_5 : H13.2 33 = .inl (3, 7, .inl sb23) := (zk13 33 (by omega) (by omega)).trans y5.2.1
        have zf13 : ∀ j : Nat, j < hp.1 → H13.2 j = hp.2 j := fun j h0 => (zk13 j (by omega) (by omega)).trans (zf11 j h0)
        show qq_Go _ H13 2 20 60 [(0, .int n), (1, .ref hp.1)] [.ref hp.1] _ _
        refine qq_pop dX2_textOf_60 rfl ?_
        refine qq_aload_n dX2_textOf_61 rfl 1 rfl ?_
        refine qq_callVS (bc := 0) (bs := 0) (mc := 2) (ms := 20) (as := []) (rest := []) (o := hp.1) (ci := 1) (N := 4) (T := TJ4) dX2_textOf_62 qb13 rfl (mt_tos H13 _ _ _ _ _ bg13 (by omega) (by omega) (by omega) qb13 qw13 (by omega) (by omega) (by omega)) rfl kl_X2_52 kn_J4_toString_0e30d ke_J4_toString_0e30d ki_J4 kc_J4_toString_0e30d kd_J4_toString_0e30d rfl (by decide) (by decide) (Nat.le_of_ble_eq_true rfl) (fun v H14 hv _ _ => ?_) (fun E hp' zx _ _ => zx.elim)
        obtain ⟨rfl, zz14, zk14⟩ := hv
        rw [zs13] at zz14
        rw [zs13]
        have zs14 : H14.1 = hp.1 + 4 := by omega
        replace zk14 : ∀ j : Nat, j < hp.1 + 2 → H14.2 j = H13.2 j := fun j a => zk14 j (by omega)
        have q14_0 : H14.2 7 = .inl (3, 100, .inl t_d1) := (zk14 7 (by omega)).trans q13_0
        have q14_1 : H14.2 8 = .inl (3, 100, .inl t_d2) := (zk14 8 (by omega)).trans q13_1
        have q14_2 : H14.2 20 = .inr (0, [.ref 30, .int 0]) := (zk14 20 (by omega)).trans q13_2
        have q14_3 : H14.2 30 = .inl (3, 1, .inl sb20) := (zk14 30 (by omega)).trans q13_3
        have q14_4 : H14.2 23 = .inr (0, [.ref 33, .int 0]) := (zk14 23 (by omega)).trans q13_4
        have q14_5 : H14.2 33 = .inl (3, 7, .inl sb23) := (zk14 33 (by omega)).trans q13_5
        have q14_6 : H14.2 hp.1 = .inr (1, [.ref (hp.1 + 1), .int 0, .int 0, .int (Int32.ofNat ((0 + 1) + 7))]) := (zk14 hp.1 (by omega)).trans qb13
        have q14_7 : H14.2 (hp.1 + 1) = .inl (3, 16, .inl g13) := (zk14 (hp.1 + 1) (by omega)).trans qw13
        have zf14 : ∀ j : Nat, j < hp.1 → H14.2 j = hp.2 j := fun j h0 => (zk14 j (by omega)).trans (zf13 j h0)
        show qq_Go _ H14 0 0 65 [(0, .int n), (1, .ref hp.1)] [.ref (hp.1 + 2)] _ _
        exact qq_aret dX2_textOf_65 rfl (Or.inl ⟨_, rfl⟩) (Or.inr ⟨_, rfl⟩) ⟨rfl, zs14, zf14⟩
      · refine qq_ldcs (tx := "zero") (a := 22) dX2_textOf_50 (by decide +kernel) ?_
        have y6 : tst 22 32 4 sb22 H11 := (tst_22 hE).g hE.1 zf11
        refine qq_goto (tgt := 57) dX2_textOf_52 (by decide) ?_
        refine qq_callVS (bc := 2) (bs := 20) (mc := 0) (ms := 0) (as := [.ref 22]) (rest := []) (o := hp.1) (ci := 1) (N := 4) (T := TJ4) dX2_textOf_57 qb11 rfl (mt_aps H11 _ _ _ _ (by omega) (by omega) y6.1 y6.2.1 y6.2.2.1 _ _ _ _ _ bg11 (by omega) (by omega) (by omega) qb11 qw11 (by omega)) rfl kl_X2_44 kn_J4_append_15ec4 ke_J4_append_15ec4 ki_J4 kc_J4_append_15ec4 kd_J4_append_15ec4 rfl (by decide) (by decide) (Nat.le_of_ble_eq_true rfl) (fun v H15 hv _ _ => ?_) (fun E hp' zx _ _ => zx.elim)
        obtain ⟨rfl, ⟨qb15, g15, qw15, bg15⟩, zz15, zk15⟩ := hv
        have zs15 : H15.1 = hp.1 + 2 := by omega
        have q15_0 : H15.2 7 = .inl (3, 100, .inl t_d1) := (zk15 7 (by omega) (by omega)).trans q11_0
        have q15_1 : H15.2 8 = .inl (3, 100, .inl t_d2) := (zk15 8 (by omega) (by omega)).trans q11_1
        have q15_2 : H15.2 20 = .inr (0, [.ref 30, .int 0]) := (zk15 20 (by omega) (by omega)).trans q11_2
        have q15_3 : H15.2 30 = .inl (3, 1, .inl sb20) := (zk15 30 (by omega) (by omega)).trans q11_3
        have q15_4 : H15.2 22 = .inr (0, [.ref 32, .int 0]) := (zk15 22 (by omega) (by omega)).trans y6.1
        have q15_5 : H15.2 32 = .inl (3, 4, .inl sb22) := (zk15 32 (by omega) (by omega)).trans y6.2.1
        have zf15 : ∀ j : Nat, j < hp.1 → H15.2 j = hp.2 j := fun j h0 => (zk15 j (by omega) (by omega)).trans (zf11 j h0)
        show qq_Go _ H15 2 20 60 [(0, .int n), (1, .ref hp.1)] [.ref hp.1] _ _
        refine qq_pop dX2_textOf_60 rfl ?_
        refine qq_aload_n dX2_textOf_61 rfl 1 rfl ?_
        refine qq_callVS (bc := 0) (bs := 0) (mc := 2) (ms := 20) (as := []) (rest := []) (o := hp.1) (ci := 1) (N := 4) (T := TJ4) dX2_textOf_62 qb15 rfl (mt_tos H15 _ _ _ _ _ bg15 (by omega) (by omega) (by omega) qb15 qw15 (by omega) (by omega) (by omega)) rfl kl_X2_52 kn_J4_toString_0e30d ke_J4_toString_0e30d ki_J4 kc_J4_toString_0e30d kd_J4_toString_0e30d rfl (by decide) (by decide) (Nat.le_of_ble_eq_true rfl) (fun v H16 hv _ _ => ?_) (fun E hp' zx _ _ => zx.elim)
        obtain ⟨rfl, zz16, zk16⟩ := hv
        rw [zs15] at zz16
        rw [zs15]
        have zs16 : H16.1 = hp.1 + 4 := by omega
        replace zk16 : ∀ j : Nat, j < hp.1 + 2 → H16.2 j = H15.2 j := fun j a => zk16 j (by omega)
        have q16_0 : H16.2 7 = .inl (3, 100, .inl t_d1) := (zk16 7 (by omega)).trans q15_0
        have q16_1 : H16.2 8 = .inl (3, 100, .inl t_d2) := (zk16 8 (by omega)).trans q15_1
        have q16_2 : H16.2 20 = .inr (0, [.ref 30, .int 0]) := (zk16 20 (by omega)).trans q15_2
        have q16_3 : H16.2 30 = .inl (3, 1, .inl sb20) := (zk16 30 (by omega)).trans q15_3
        have q16_4 : H16.2 22 = .inr (0, [.ref 32, .int 0]) := (zk16 22 (by omega)).trans q15_4
        have q16_5 : H16.2 32 = .inl (3, 4, .inl sb22) := (zk16 32 (by omega)).trans q15_5
        have q16_6 : H16.2 hp.1 = .inr (1, [.ref (hp.1 + 1), .int 0, .int 0, .int (Int32.ofNat ((0 + 1) + 4))]) := (zk16 hp.1 (by omega)).trans qb15
        have q16_7 : H16.2 (hp.1 + 1) = .inl (3, 16, .inl g15) := (zk16 (hp.1 + 1) (by omega)).trans qw15
        have zf16 : ∀ j : Nat, j < hp.1 → H16.2 j = hp.2 j := fun j h0 => (zk16 j (by omega)).trans (zf15 j h0)
        show qq_Go _ H16 0 0 65 [(0, .int n), (1, .ref hp.1)] [.ref (hp.1 + 2)] _ _
        exact qq_aret dX2_textOf_65 rfl (Or.inl ⟨_, rfl⟩) (Or.inr ⟨_, rfl⟩) ⟨rfl, zs16, zf16⟩
  · refine qq_iload_n dX2_textOf_15 rfl 0 rfl ?_
    refine qq_callS (bc := 2) (bs := 20) (mc := 0) (ms := 0) (as := [.int n]) (rest := []) dX2_textOf_16 (mt_X2_kindOf H2 n) rfl kl_X2_17 ks_X2_kindOf ki_X2 kc_X2_kindOf kd_X2_kindOf rfl (by decide) (by decide) (Nat.le_of_ble_eq_true rfl) (fun v H17 hv _ _ => ?_) (fun E hp' zx _ _ => zx.elim)
    obtain ⟨rfl, rfl⟩ := hv
    show qq_Go _ H2 2 20 19 [(0, .int n), (1, .ref hp.1)] [.int (f_X2_kindOf n)] _ _
    refine qq_iconst (v := 1) dX2_textOf_19 (by decide) ?_
    refine qq_icmp_ne (tgt := 66) dX2_textOf_20 (by decide) (fun zc5 => ?_) (fun zc5 => ?_)
    · refine qq_aload_n dX2_textOf_66 rfl 1 rfl ?_
      refine qq_iload_n dX2_textOf_67 rfl 0 rfl ?_
      refine qq_callS (bc := 2) (bs := 20) (mc := 0) (ms := 0) (as := [.int n]) (rest := [.ref hp.1]) dX2_textOf_68 (mt_X2_kindOf H2 n) rfl kl_X2_17 ks_X2_kindOf ki_X2 kc_X2_kindOf kd_X2_kindOf rfl (by decide) (by decide) (Nat.le_of_ble_eq_true rfl) (fun v H18 hv _ _ => ?_) (fun E hp' zx _ _ => zx.elim)
      obtain ⟨rfl, rfl⟩ := hv
      show qq_Go _ H2 2 20 71 [(0, .int n), (1, .ref hp.1)] [.int (f_X2_kindOf n), .ref hp.1] _ _
      refine qq_callS (bc := 2) (bs := 20) (mc := 0) (ms := 0) (as := [.int (f_X2_kindOf n)]) (rest := [.ref hp.1]) dX2_textOf_71 (mt_nameOf H2 _ (qq_exm hE (show hp.1 ≤ H2.1 by omega) (fun k hk => zf2 k (by have := hE.1; omega)))) rfl kl_X2_56 ks_X2_nameOf ki_X2 kc_X2_nameOf kd_X2_nameOf rfl (by decide) (by decide) (Nat.le_of_ble_eq_true rfl) (fun v H19 hv _ _ => ?_) (fun E hp' zx _ _ => zx.elim)
      obtain ⟨s9, v9, L9, f9, rfl, ⟨y1, y2, y3, y4, y5⟩, y6, y7, rfl⟩ := hv
      show qq_Go _ H2 2 20 74 [(0, .int n), (1, .ref hp.1)] [.ref s9, .ref hp.1] _ _
      refine qq_callVS (bc := 2) (bs := 20) (mc := 0) (ms := 0) (as := [.ref s9]) (rest := []) (o := hp.1) (ci := 1) (N := 4) (T := TJ4) dX2_textOf_74 qb2 rfl (mt_aps H2 _ _ _ _ (by omega) (by omega) y1 y2 y3 _ _ _ _ _ bg2 (by omega) (by omega) (by omega) qb2 qw2 (by omega)) rfl kl_X2_44 kn_J4_append_15ec4 ke_J4_append_15ec4 ki_J4 kc_J4_append_15ec4 kd_J4_append_15ec4 rfl (by decide) (by decide) (Nat.le_of_ble_eq_true rfl) (fun v H20 hv _ _ => ?_) (fun E hp' zx _ _ => zx.elim)
      obtain ⟨rfl, ⟨qb20, g20, qw20, bg20⟩, zz20, zk20⟩ := hv
      have zs20 : H20.1 = hp.1 + 2 := by omega
      have q20_0 : H20.2 7 = .inl (3, 100, .inl t_d1) := (zk20 7 (by omega) (by omega)).trans q2_0
      have q20_1 : H20.2 8 = .inl (3, 100, .inl t_d2) := (zk20 8 (by omega) (by omega)).trans q2_1
      have q20_2 : H20.2 s9 = .inr (0, [.ref v9, .int 0]) := (zk20 s9 (by omega) (by omega)).trans y1
      have q20_3 : H20.2 v9 = .inl (3, L9, .inl f9) := (zk20 v9 (by omega) (by omega)).trans y2
      have zf20 : ∀ j : Nat, j < hp.1 → H20.2 j = hp.2 j := fun j h0 => (zk20 j (by omega) (by omega)).trans (zf2 j h0)
      show qq_Go _ H20 2 20 77 [(0, .int n), (1, .ref hp.1)] [.ref hp.1] _ _
      refine qq_pop dX2_textOf_77 rfl ?_
      refine qq_aload_n dX2_textOf_78 rfl 1 rfl ?_
      refine qq_bipush (v := 32) dX2_textOf_79 (by decide) ?_
      refine qq_callVS (bc := 2) (bs := 20) (mc := 0) (ms := 0) (as := [.int 32]) (rest := []) (o := hp.1) (ci := 1) (N := 4) (T := TJ4) dX2_textOf_81 qb20 rfl (mt_apc H20 _ _ _ _ _ bg20 (by omega) (by omega) (by omega) qb20 qw20 _ (by decide) (by omega)) rfl kl_X2_60 kn_J4_append_cf468 ke_J4_append_cf468 ki_J4 kc_J4_append_cf468 kd_J4_append_cf468 rfl (by decide) (by decide) (Nat.le_of_ble_eq_true rfl) (fun v H21 hv _ _ => ?_) (fun E hp' zx _ _ => zx.elim)
      obtain ⟨rfl, ⟨qb21, g21, qw21, bg21⟩, zz21, zk21⟩ := hv
      have zs21 : H21.1 = hp.1 + 2 := by omega
      have q21_0 : H21.2 7 = .inl (3, 100, .inl t_d1) := (zk21 7 (by omega) (by omega)).trans q20_0
      have q21_1 : H21.2 8 = .inl (3, 100, .inl t_d2) := (zk21 8 (by omega) (by omega)).trans q20_1
      have q21_2 : H21.2 s9 = .inr (0, [.ref v9, .int 0]) := (zk21 s9 (by omega) (by omega)).trans q20_2
      have q21_3 : H21.2 v9 = .inl (3, L9, .inl f9) := (zk21 v9 (by omega) (by omega)).trans q20_3
      have zf21 : ∀ j : Nat, j < hp.1 → H21.2 j = hp.2 j := fun j h0 => (zk21 j (by omega) (by omega)).trans (zf20 j h0)
      show qq_Go _ H21 2 20 84 [(0, .int n), (1, .ref hp.1)] [.ref hp.1] _ _
      refine qq_pop dX2_textOf_84 rfl ?_
      refine qq_aload_n dX2_textOf_85 rfl 1 rfl ?_
      refine qq_iload_n dX2_textOf_86 rfl 0 rfl ?_
      refine qq_callS (bc := 2) (bs := 20) (mc := 0) (ms := 0) (as := [.int n]) (rest := [.ref hp.1]) dX2_textOf_87 (mt_X2_qOf H21 n) rfl kl_X2_21 ks_X2_qOf ki_X2 kc_X2_qOf kd_X2_qOf rfl (by decide) (by decide) (Nat.le_of_ble_eq_true rfl) (fun v H22 hv _ _ => ?_) (fun E hp' zx _ _ => zx.elim)
      obtain ⟨rfl, rfl⟩ := hv
      show qq_Go _ H21 2 20 90 [(0, .int n), (1, .ref hp.1)] [.int (f_X2_qOf n), .ref hp.1] _ _
      refine qq_callVS (bc := 2) (bs := 20) (mc := 0) (ms := 0) (as := [.int (f_X2_qOf n)]) (rest := []) (o := hp.1) (ci := 1) (N := 4) (T := TJ4) dX2_textOf_90 qb21 rfl (mt_api H21 _ _ _ _ _ bg21 (by omega) (by omega) (by omega) qb21 qw21 _ (rq_q _) q21_0 q21_1 (by omega) (by omega)) rfl kl_X2_63 kn_J4_append_bf812 ke_J4_append_bf812 ki_J4 kc_J4_append_bf812 kd_J4_append_bf812 rfl (by decide) (by decide) (Nat.le_of_ble_eq_true rfl) (fun v H23 hv _ _ => ?_) (fun E hp' zx _ _ => zx.elim)
      obtain ⟨rfl, ⟨k23, le23, qb23, g23, qw23, bg23⟩, zz23, zk23⟩ := hv
      have zs23 : H23.1 = hp.1 + 2 := by omega
      have q23_0 : H23.2 7 = .inl (3, 100, .inl t_d1) := (zk23 7 (by omega) (by omega)).trans q21_0
      have q23_1 : H23.2 8 = .inl (3, 100, .inl t_d2) := (zk23 8 (by omega) (by omega)).trans q21_1
      have q23_2 : H23.2 s9 = .inr (0, [.ref v9, .int 0]) := (zk23 s9 (by omega) (by omega)).trans q21_2
      have q23_3 : H23.2 v9 = .inl (3, L9, .inl f9) := (zk23 v9 (by omega) (by omega)).trans q21_3
      have zf23 : ∀ j : Nat, j < hp.1 → H23.2 j = hp.2 j := fun j h0 => (zk23 j (by omega) (by omega)).trans (zf21 j h0)
      show qq_Go _ H23 2 20 93 [(0, .int n), (1, .ref hp.1)] [.ref hp.1] _ _
      refine qq_pop dX2_textOf_93 rfl ?_
      refine qq_aload_n dX2_textOf_94 rfl 1 rfl ?_
      refine qq_callVS (bc := 0) (bs := 0) (mc := 2) (ms := 20) (as := []) (rest := []) (o := hp.1) (ci := 1) (N := 4) (T := TJ4) dX2_textOf_95 qb23 rfl (mt_tos H23 _ _ _ _ _ bg23 (by omega) (by omega) (by omega) qb23 qw23 (by omega) (by omega) (by omega)) rfl kl_X2_52 kn_J4_toString_0e30d ke_J4_toString_0e30d ki_J4 kc_J4_toString_0e30d kd_J4_toString_0e30d rfl (by decide) (by decide) (Nat.le_of_ble_eq_true rfl) (fun v H24 hv _ _ => ?_) (fun E hp' zx _ _ => zx.elim)
      obtain ⟨rfl, zz24, zk24⟩ := hv
      rw [zs23] at zz24
      rw [zs23]
      have zs24 : H24.1 = hp.1 + 4 := by omega
      replace zk24 : ∀ j : Nat, j < hp.1 + 2 → H24.2 j = H23.2 j := fun j a => zk24 j (by omega)
      have q24_0 : H24.2 7 = .inl (3, 100, .inl t_d1) := (zk24 7 (by omega)).trans q23_0
      have q24_1 : H24.2 8 = .inl (3, 100, .inl t_d2) := (zk24 8 (by omega)).trans q23_1
      have q24_2 : H24.2 s9 = .inr (0, [.ref v9, .int 0]) := (zk24 s9 (by omega)).trans q23_2
      have q24_3 : H24.2 v9 = .inl (3, L9, .inl f9) := (zk24 v9 (by omega)).trans q23_3
      have q24_4 : H24.2 hp.1 = .inr (1, [.ref (hp.1 + 1), .int 0, .int 0, .int (Int32.ofNat k23)]) := (zk24 hp.1 (by omega)).trans qb23
      have q24_5 : H24.2 (hp.1 + 1) = .inl (3, 16, .inl g23) := (zk24 (hp.1 + 1) (by omega)).trans qw23
      have zf24 : ∀ j : Nat, j < hp.1 → H24.2 j = hp.2 j := fun j h0 => (zk24 j (by omega)).trans (zf23 j h0)
      show qq_Go _ H24 0 0 98 [(0, .int n), (1, .ref hp.1)] [.ref (hp.1 + 2)] _ _
      exact qq_aret dX2_textOf_98 rfl (Or.inl ⟨_, rfl⟩) (Or.inr ⟨_, rfl⟩) ⟨rfl, zs24, zf24⟩
    · refine qq_aload_n dX2_textOf_23 rfl 1 rfl ?_
      refine qq_iload_n dX2_textOf_24 rfl 0 rfl ?_
      refine qq_callS (bc := 2) (bs := 20) (mc := 0) (ms := 0) (as := [.int n]) (rest := [.ref hp.1]) dX2_textOf_25 (mt_X2_isUnder H2 n) rfl kl_X2_24 ks_X2_isUnder ki_X2 kc_X2_isUnder kd_X2_isUnder rfl (by decide) (by decide) (Nat.le_of_ble_eq_true rfl) (fun v H25 hv _ _ => ?_) (fun E hp' zx _ _ => zx.elim)
      obtain ⟨rfl, rfl⟩ := hv
      show qq_Go _ H2 2 20 28 [(0, .int n), (1, .ref hp.1)] [.int (f_X2_isUnder n), .ref hp.1] _ _
      refine qq_if_eq (tgt := 36) dX2_textOf_28 (by decide) (fun zc6 => ?_) (fun zc6 => ?_)
      · refine qq_ldcs (tx := "") (a := 21) dX2_textOf_36 (by decide +kernel) ?_
        have y7 : tst 21 31 0 sb21 H2 := (tst_21 hE).g hE.1 zf2
        refine qq_callVS (bc := 2) (bs := 20) (mc := 0) (ms := 0) (as := [.ref 21]) (rest := []) (o := hp.1) (ci := 1) (N := 4) (T := TJ4) dX2_textOf_38 qb2 rfl (mt_aps H2 _ _ _ _ (by omega) (by omega) y7.1 y7.2.1 y7.2.2.1 _ _ _ _ _ bg2 (by omega) (by omega) (by omega) qb2 qw2 (by omega)) rfl kl_X2_44 kn_J4_append_15ec4 ke_J4_append_15ec4 ki_J4 kc_J4_append_15ec4 kd_J4_append_15ec4 rfl (by decide) (by decide) (Nat.le_of_ble_eq_true rfl) (fun v H26 hv _ _ => ?_) (fun E hp' zx _ _ => zx.elim)
        obtain ⟨rfl, ⟨qb26, g26, qw26, bg26⟩, zz26, zk26⟩ := hv
        have zs26 : H26.1 = hp.1 + 2 := by omega
        have q26_0 : H26.2 7 = .inl (3, 100, .inl t_d1) := (zk26 7 (by omega) (by omega)).trans q2_0
        have q26_1 : H26.2 8 = .inl (3, 100, .inl t_d2) := (zk26 8 (by omega) (by omega)).trans q2_1
        have q26_2 : H26.2 21 = .inr (0, [.ref 31, .int 0]) := (zk26 21 (by omega) (by omega)).trans y7.1
        have q26_3 : H26.2 31 = .inl (3, 0, .inl sb21) := (zk26 31 (by omega) (by omega)).trans y7.2.1
        have zf26 : ∀ j : Nat, j < hp.1 → H26.2 j = hp.2 j := fun j h0 => (zk26 j (by omega) (by omega)).trans (zf2 j h0)
        show qq_Go _ H26 2 20 41 [(0, .int n), (1, .ref hp.1)] [.ref hp.1] _ _
        refine qq_pop dX2_textOf_41 rfl ?_
        refine qq_aload_n dX2_textOf_42 rfl 1 rfl ?_
        refine qq_iload_n dX2_textOf_43 rfl 0 rfl ?_
        refine qq_callS (bc := 2) (bs := 20) (mc := 0) (ms := 0) (as := [.int n]) (rest := [.ref hp.1]) dX2_textOf_44 (mt_X2_isNought H26 n) rfl kl_X2_31 ks_X2_isNought ki_X2 kc_X2_isNought kd_X2_isNought rfl (by decide) (by decide) (Nat.le_of_ble_eq_true rfl) (fun v H27 hv _ _ => ?_) (fun E hp' zx _ _ => zx.elim)
        obtain ⟨rfl, rfl⟩ := hv
        show qq_Go _ H26 2 20 47 [(0, .int n), (1, .ref hp.1)] [.int (f_X2_isNought n), .ref hp.1] _ _
        refine qq_if_eq (tgt := 55) dX2_textOf_47 (by decide) (fun zc7 => ?_) (fun zc7 => ?_)
        · refine qq_ldcs (tx := "endless") (a := 23) dX2_textOf_55 (by decide +kernel) ?_
          have y8 : tst 23 33 7 sb23 H26 := (tst_23 hE).g hE.1 zf26
          refine qq_callVS (bc := 2) (bs := 20) (mc := 0) (ms := 0) (as := [.ref 23]) (rest := []) (o := hp.1) (ci := 1) (N := 4) (T := TJ4) dX2_textOf_57 qb26 rfl (mt_aps H26 _ _ _ _ (by omega) (by omega) y8.1 y8.2.1 y8.2.2.1 _ _ _ _ _ bg26 (by omega) (by omega) (by omega) qb26 qw26 (by omega)) rfl kl_X2_44 kn_J4_append_15ec4 ke_J4_append_15ec4 ki_J4 kc_J4_append_15ec4 kd_J4_append_15ec4 rfl (by decide) (by decide) (Nat.le_of_ble_eq_true rfl) (fun v H28 hv _ _ => ?_) (fun E hp' zx _ _ => zx.elim)
          obtain ⟨rfl, ⟨qb28, g28, qw28, bg28⟩, zz28, zk28⟩ := hv
          have zs28 : H28.1 = hp.1 + 2 := by omega
          have q28_0 : H28.2 7 = .inl (3, 100, .inl t_d1) := (zk28 7 (by omega) (by omega)).trans q26_0
          have q28_1 : H28.2 8 = .inl (3, 100, .inl t_d2) := (zk28 8 (by omega) (by omega)).trans q26_1
          have q28_2 : H28.2 21 = .inr (0, [.ref 31, .int 0]) := (zk28 21 (by omega) (by omega)).trans q26_2
          have q28_3 : H28.2 31 = .inl (3, 0, .inl sb21) := (zk28 31 (by omega) (by omega)).trans q26_3
          have q28_4 : H28.2 23 = .inr (0, [.ref 33, .int 0]) := (zk28 23 (by omega) (by omega)).trans y8.1
          have q28_5 : H28.2 33 = .inl (3, 7, .inl sb23) := (zk28 33 (by omega) (by omega)).trans y8.2.1
          have zf28 : ∀ j : Nat, j < hp.1 → H28.2 j = hp.2 j := fun j h0 => (zk28 j (by omega) (by omega)).trans (zf26 j h0)
          show qq_Go _ H28 2 20 60 [(0, .int n), (1, .ref hp.1)] [.ref hp.1] _ _
          refine qq_pop dX2_textOf_60 rfl ?_
          refine qq_aload_n dX2_textOf_61 rfl 1 rfl ?_
          refine qq_callVS (bc := 0) (bs := 0) (mc := 2) (ms := 20) (as := []) (rest := []) (o := hp.1) (ci := 1) (N := 4) (T := TJ4) dX2_textOf_62 qb28 rfl (mt_tos H28 _ _ _ _ _ bg28 (by omega) (by omega) (by omega) qb28 qw28 (by omega) (by omega) (by omega)) rfl kl_X2_52 kn_J4_toString_0e30d ke_J4_toString_0e30d ki_J4 kc_J4_toString_0e30d kd_J4_toString_0e30d rfl (by decide) (by decide) (Nat.le_of_ble_eq_true rfl) (fun v H29 hv _ _ => ?_) (fun E hp' zx _ _ => zx.elim)
          obtain ⟨rfl, zz29, zk29⟩ := hv
          rw [zs28] at zz29
          rw [zs28]
          have zs29 : H29.1 = hp.1 + 4 := by omega
          replace zk29 : ∀ j : Nat, j < hp.1 + 2 → H29.2 j = H28.2 j := fun j a => zk29 j (by omega)
          have q29_0 : H29.2 7 = .inl (3, 100, .inl t_d1) := (zk29 7 (by omega)).trans q28_0
          have q29_1 : H29.2 8 = .inl (3, 100, .inl t_d2) := (zk29 8 (by omega)).trans q28_1
          have q29_2 : H29.2 21 = .inr (0, [.ref 31, .int 0]) := (zk29 21 (by omega)).trans q28_2
          have q29_3 : H29.2 31 = .inl (3, 0, .inl sb21) := (zk29 31 (by omega)).trans q28_3
          have q29_4 : H29.2 23 = .inr (0, [.ref 33, .int 0]) := (zk29 23 (by omega)).trans q28_4
          have q29_5 : H29.2 33 = .inl (3, 7, .inl sb23) := (zk29 33 (by omega)).trans q28_5
          have q29_6 : H29.2 hp.1 = .inr (1, [.ref (hp.1 + 1), .int 0, .int 0, .int (Int32.ofNat ((0 + 0) + 7))]) := (zk29 hp.1 (by omega)).trans qb28
          have q29_7 : H29.2 (hp.1 + 1) = .inl (3, 16, .inl g28) := (zk29 (hp.1 + 1) (by omega)).trans qw28
          have zf29 : ∀ j : Nat, j < hp.1 → H29.2 j = hp.2 j := fun j h0 => (zk29 j (by omega)).trans (zf28 j h0)
          show qq_Go _ H29 0 0 65 [(0, .int n), (1, .ref hp.1)] [.ref (hp.1 + 2)] _ _
          exact qq_aret dX2_textOf_65 rfl (Or.inl ⟨_, rfl⟩) (Or.inr ⟨_, rfl⟩) ⟨rfl, zs29, zf29⟩
        · refine qq_ldcs (tx := "zero") (a := 22) dX2_textOf_50 (by decide +kernel) ?_
          have y9 : tst 22 32 4 sb22 H26 := (tst_22 hE).g hE.1 zf26
          refine qq_goto (tgt := 57) dX2_textOf_52 (by decide) ?_
          refine qq_callVS (bc := 2) (bs := 20) (mc := 0) (ms := 0) (as := [.ref 22]) (rest := []) (o := hp.1) (ci := 1) (N := 4) (T := TJ4) dX2_textOf_57 qb26 rfl (mt_aps H26 _ _ _ _ (by omega) (by omega) y9.1 y9.2.1 y9.2.2.1 _ _ _ _ _ bg26 (by omega) (by omega) (by omega) qb26 qw26 (by omega)) rfl kl_X2_44 kn_J4_append_15ec4 ke_J4_append_15ec4 ki_J4 kc_J4_append_15ec4 kd_J4_append_15ec4 rfl (by decide) (by decide) (Nat.le_of_ble_eq_true rfl) (fun v H30 hv _ _ => ?_) (fun E hp' zx _ _ => zx.elim)
          obtain ⟨rfl, ⟨qb30, g30, qw30, bg30⟩, zz30, zk30⟩ := hv
          have zs30 : H30.1 = hp.1 + 2 := by omega
          have q30_0 : H30.2 7 = .inl (3, 100, .inl t_d1) := (zk30 7 (by omega) (by omega)).trans q26_0
          have q30_1 : H30.2 8 = .inl (3, 100, .inl t_d2) := (zk30 8 (by omega) (by omega)).trans q26_1
          have q30_2 : H30.2 21 = .inr (0, [.ref 31, .int 0]) := (zk30 21 (by omega) (by omega)).trans q26_2
          have q30_3 : H30.2 31 = .inl (3, 0, .inl sb21) := (zk30 31 (by omega) (by omega)).trans q26_3
          have q30_4 : H30.2 22 = .inr (0, [.ref 32, .int 0]) := (zk30 22 (by omega) (by omega)).trans y9.1
          have q30_5 : H30.2 32 = .inl (3, 4, .inl sb22) := (zk30 32 (by omega) (by omega)).trans y9.2.1
          have zf30 : ∀ j : Nat, j < hp.1 → H30.2 j = hp.2 j := fun j h0 => (zk30 j (by omega) (by omega)).trans (zf26 j h0)
          show qq_Go _ H30 2 20 60 [(0, .int n), (1, .ref hp.1)] [.ref hp.1] _ _
          refine qq_pop dX2_textOf_60 rfl ?_
          refine qq_aload_n dX2_textOf_61 rfl 1 rfl ?_
          refine qq_callVS (bc := 0) (bs := 0) (mc := 2) (ms := 20) (as := []) (rest := []) (o := hp.1) (ci := 1) (N := 4) (T := TJ4) dX2_textOf_62 qb30 rfl (mt_tos H30 _ _ _ _ _ bg30 (by omega) (by omega) (by omega) qb30 qw30 (by omega) (by omega) (by omega)) rfl kl_X2_52 kn_J4_toString_0e30d ke_J4_toString_0e30d ki_J4 kc_J4_toString_0e30d kd_J4_toString_0e30d rfl (by decide) (by decide) (Nat.le_of_ble_eq_true rfl) (fun v H31 hv _ _ => ?_) (fun E hp' zx _ _ => zx.elim)
          obtain ⟨rfl, zz31, zk31⟩ := hv
          rw [zs30] at zz31
          rw [zs30]
          have zs31 : H31.1 = hp.1 + 4 := by omega
          replace zk31 : ∀ j : Nat, j < hp.1 + 2 → H31.2 j = H30.2 j := fun j a => zk31 j (by omega)
          have q31_0 : H31.2 7 = .inl (3, 100, .inl t_d1) := (zk31 7 (by omega)).trans q30_0
          have q31_1 : H31.2 8 = .inl (3, 100, .inl t_d2) := (zk31 8 (by omega)).trans q30_1
          have q31_2 : H31.2 21 = .inr (0, [.ref 31, .int 0]) := (zk31 21 (by omega)).trans q30_2
          have q31_3 : H31.2 31 = .inl (3, 0, .inl sb21) := (zk31 31 (by omega)).trans q30_3
          have q31_4 : H31.2 22 = .inr (0, [.ref 32, .int 0]) := (zk31 22 (by omega)).trans q30_4
          have q31_5 : H31.2 32 = .inl (3, 4, .inl sb22) := (zk31 32 (by omega)).trans q30_5
          have q31_6 : H31.2 hp.1 = .inr (1, [.ref (hp.1 + 1), .int 0, .int 0, .int (Int32.ofNat ((0 + 0) + 4))]) := (zk31 hp.1 (by omega)).trans qb30
          have q31_7 : H31.2 (hp.1 + 1) = .inl (3, 16, .inl g30) := (zk31 (hp.1 + 1) (by omega)).trans qw30
          have zf31 : ∀ j : Nat, j < hp.1 → H31.2 j = hp.2 j := fun j h0 => (zk31 j (by omega)).trans (zf30 j h0)
          show qq_Go _ H31 0 0 65 [(0, .int n), (1, .ref hp.1)] [.ref (hp.1 + 2)] _ _
          exact qq_aret dX2_textOf_65 rfl (Or.inl ⟨_, rfl⟩) (Or.inr ⟨_, rfl⟩) ⟨rfl, zs31, zf31⟩
      · refine qq_ldcs (tx := "-") (a := 20) dX2_textOf_31 (by decide +kernel) ?_
        have y10 : tst 20 30 1 sb20 H2 := (tst_20 hE).g hE.1 zf2
        refine qq_goto (tgt := 38) dX2_textOf_33 (by decide) ?_
        refine qq_callVS (bc := 2) (bs := 20) (mc := 0) (ms := 0) (as := [.ref 20]) (rest := []) (o := hp.1) (ci := 1) (N := 4) (T := TJ4) dX2_textOf_38 qb2 rfl (mt_aps H2 _ _ _ _ (by omega) (by omega) y10.1 y10.2.1 y10.2.2.1 _ _ _ _ _ bg2 (by omega) (by omega) (by omega) qb2 qw2 (by omega)) rfl kl_X2_44 kn_J4_append_15ec4 ke_J4_append_15ec4 ki_J4 kc_J4_append_15ec4 kd_J4_append_15ec4 rfl (by decide) (by decide) (Nat.le_of_ble_eq_true rfl) (fun v H32 hv _ _ => ?_) (fun E hp' zx _ _ => zx.elim)
        obtain ⟨rfl, ⟨qb32, g32, qw32, bg32⟩, zz32, zk32⟩ := hv
        have zs32 : H32.1 = hp.1 + 2 := by omega
        have q32_0 : H32.2 7 = .inl (3, 100, .inl t_d1) := (zk32 7 (by omega) (by omega)).trans q2_0
        have q32_1 : H32.2 8 = .inl (3, 100, .inl t_d2) := (zk32 8 (by omega) (by omega)).trans q2_1
        have q32_2 : H32.2 20 = .inr (0, [.ref 30, .int 0]) := (zk32 20 (by omega) (by omega)).trans y10.1
        have q32_3 : H32.2 30 = .inl (3, 1, .inl sb20) := (zk32 30 (by omega) (by omega)).trans y10.2.1
        have zf32 : ∀ j : Nat, j < hp.1 → H32.2 j = hp.2 j := fun j h0 => (zk32 j (by omega) (by omega)).trans (zf2 j h0)
        show qq_Go _ H32 2 20 41 [(0, .int n), (1, .ref hp.1)] [.ref hp.1] _ _
        refine qq_pop dX2_textOf_41 rfl ?_
        refine qq_aload_n dX2_textOf_42 rfl 1 rfl ?_
        refine qq_iload_n dX2_textOf_43 rfl 0 rfl ?_
        refine qq_callS (bc := 2) (bs := 20) (mc := 0) (ms := 0) (as := [.int n]) (rest := [.ref hp.1]) dX2_textOf_44 (mt_X2_isNought H32 n) rfl kl_X2_31 ks_X2_isNought ki_X2 kc_X2_isNought kd_X2_isNought rfl (by decide) (by decide) (Nat.le_of_ble_eq_true rfl) (fun v H33 hv _ _ => ?_) (fun E hp' zx _ _ => zx.elim)
        obtain ⟨rfl, rfl⟩ := hv
        show qq_Go _ H32 2 20 47 [(0, .int n), (1, .ref hp.1)] [.int (f_X2_isNought n), .ref hp.1] _ _
        refine qq_if_eq (tgt := 55) dX2_textOf_47 (by decide) (fun zc8 => ?_) (fun zc8 => ?_)
        · refine qq_ldcs (tx := "endless") (a := 23) dX2_textOf_55 (by decide +kernel) ?_
          have y11 : tst 23 33 7 sb23 H32 := (tst_23 hE).g hE.1 zf32
          refine qq_callVS (bc := 2) (bs := 20) (mc := 0) (ms := 0) (as := [.ref 23]) (rest := []) (o := hp.1) (ci := 1) (N := 4) (T := TJ4) dX2_textOf_57 qb32 rfl (mt_aps H32 _ _ _ _ (by omega) (by omega) y11.1 y11.2.1 y11.2.2.1 _ _ _ _ _ bg32 (by omega) (by omega) (by omega) qb32 qw32 (by omega)) rfl kl_X2_44 kn_J4_append_15ec4 ke_J4_append_15ec4 ki_J4 kc_J4_append_15ec4 kd_J4_append_15ec4 rfl (by decide) (by decide) (Nat.le_of_ble_eq_true rfl) (fun v H34 hv _ _ => ?_) (fun E hp' zx _ _ => zx.elim)
          obtain ⟨rfl, ⟨qb34, g34, qw34, bg34⟩, zz34, zk34⟩ := hv
          have zs34 : H34.1 = hp.1 + 2 := by omega
          have q34_0 : H34.2 7 = .inl (3, 100, .inl t_d1) := (zk34 7 (by omega) (by omega)).trans q32_0
          have q34_1 : H34.2 8 = .inl (3, 100, .inl t_d2) := (zk34 8 (by omega) (by omega)).trans q32_1
          have q34_2 : H34.2 20 = .inr (0, [.ref 30, .int 0]) := (zk34 20 (by omega) (by omega)).trans q32_2
          have q34_3 : H34.2 30 = .inl (3, 1, .inl sb20) := (zk34 30 (by omega) (by omega)).trans q32_3
          have q34_4 : H34.2 23 = .inr (0, [.ref 33, .int 0]) := (zk34 23 (by omega) (by omega)).trans y11.1
          have q34_5 : H34.2 33 = .inl (3, 7, .inl sb23) := (zk34 33 (by omega) (by omega)).trans y11.2.1
          have zf34 : ∀ j : Nat, j < hp.1 → H34.2 j = hp.2 j := fun j h0 => (zk34 j (by omega) (by omega)).trans (zf32 j h0)
          show qq_Go _ H34 2 20 60 [(0, .int n), (1, .ref hp.1)] [.ref hp.1] _ _
          refine qq_pop dX2_textOf_60 rfl ?_
          refine qq_aload_n dX2_textOf_61 rfl 1 rfl ?_
          refine qq_callVS (bc := 0) (bs := 0) (mc := 2) (ms := 20) (as := []) (rest := []) (o := hp.1) (ci := 1) (N := 4) (T := TJ4) dX2_textOf_62 qb34 rfl (mt_tos H34 _ _ _ _ _ bg34 (by omega) (by omega) (by omega) qb34 qw34 (by omega) (by omega) (by omega)) rfl kl_X2_52 kn_J4_toString_0e30d ke_J4_toString_0e30d ki_J4 kc_J4_toString_0e30d kd_J4_toString_0e30d rfl (by decide) (by decide) (Nat.le_of_ble_eq_true rfl) (fun v H35 hv _ _ => ?_) (fun E hp' zx _ _ => zx.elim)
          obtain ⟨rfl, zz35, zk35⟩ := hv
          rw [zs34] at zz35
          rw [zs34]
          have zs35 : H35.1 = hp.1 + 4 := by omega
          replace zk35 : ∀ j : Nat, j < hp.1 + 2 → H35.2 j = H34.2 j := fun j a => zk35 j (by omega)
          have q35_0 : H35.2 7 = .inl (3, 100, .inl t_d1) := (zk35 7 (by omega)).trans q34_0
          have q35_1 : H35.2 8 = .inl (3, 100, .inl t_d2) := (zk35 8 (by omega)).trans q34_1
          have q35_2 : H35.2 20 = .inr (0, [.ref 30, .int 0]) := (zk35 20 (by omega)).trans q34_2
          have q35_3 : H35.2 30 = .inl (3, 1, .inl sb20) := (zk35 30 (by omega)).trans q34_3
          have q35_4 : H35.2 23 = .inr (0, [.ref 33, .int 0]) := (zk35 23 (by omega)).trans q34_4
          have q35_5 : H35.2 33 = .inl (3, 7, .inl sb23) := (zk35 33 (by omega)).trans q34_5
          have q35_6 : H35.2 hp.1 = .inr (1, [.ref (hp.1 + 1), .int 0, .int 0, .int (Int32.ofNat ((0 + 1) + 7))]) := (zk35 hp.1 (by omega)).trans qb34
          have q35_7 : H35.2 (hp.1 + 1) = .inl (3, 16, .inl g34) := (zk35 (hp.1 + 1) (by omega)).trans qw34
          have zf35 : ∀ j : Nat, j < hp.1 → H35.2 j = hp.2 j := fun j h0 => (zk35 j (by omega)).trans (zf34 j h0)
          show qq_Go _ H35 0 0 65 [(0, .int n), (1, .ref hp.1)] [.ref (hp.1 + 2)] _ _
          exact qq_aret dX2_textOf_65 rfl (Or.inl ⟨_, rfl⟩) (Or.inr ⟨_, rfl⟩) ⟨rfl, zs35, zf35⟩
        · refine qq_ldcs (tx := "zero") (a := 22) dX2_textOf_50 (by decide +kernel) ?_
          have y12 : tst 22 32 4 sb22 H32 := (tst_22 hE).g hE.1 zf32
          refine qq_goto (tgt := 57) dX2_textOf_52 (by decide) ?_
          refine qq_callVS (bc := 2) (bs := 20) (mc := 0) (ms := 0) (as := [.ref 22]) (rest := []) (o := hp.1) (ci := 1) (N := 4) (T := TJ4) dX2_textOf_57 qb32 rfl (mt_aps H32 _ _ _ _ (by omega) (by omega) y12.1 y12.2.1 y12.2.2.1 _ _ _ _ _ bg32 (by omega) (by omega) (by omega) qb32 qw32 (by omega)) rfl kl_X2_44 kn_J4_append_15ec4 ke_J4_append_15ec4 ki_J4 kc_J4_append_15ec4 kd_J4_append_15ec4 rfl (by decide) (by decide) (Nat.le_of_ble_eq_true rfl) (fun v H36 hv _ _ => ?_) (fun E hp' zx _ _ => zx.elim)
          obtain ⟨rfl, ⟨qb36, g36, qw36, bg36⟩, zz36, zk36⟩ := hv
          have zs36 : H36.1 = hp.1 + 2 := by omega
          have q36_0 : H36.2 7 = .inl (3, 100, .inl t_d1) := (zk36 7 (by omega) (by omega)).trans q32_0
          have q36_1 : H36.2 8 = .inl (3, 100, .inl t_d2) := (zk36 8 (by omega) (by omega)).trans q32_1
          have q36_2 : H36.2 20 = .inr (0, [.ref 30, .int 0]) := (zk36 20 (by omega) (by omega)).trans q32_2
          have q36_3 : H36.2 30 = .inl (3, 1, .inl sb20) := (zk36 30 (by omega) (by omega)).trans q32_3
          have q36_4 : H36.2 22 = .inr (0, [.ref 32, .int 0]) := (zk36 22 (by omega) (by omega)).trans y12.1
          have q36_5 : H36.2 32 = .inl (3, 4, .inl sb22) := (zk36 32 (by omega) (by omega)).trans y12.2.1
          have zf36 : ∀ j : Nat, j < hp.1 → H36.2 j = hp.2 j := fun j h0 => (zk36 j (by omega) (by omega)).trans (zf32 j h0)
          show qq_Go _ H36 2 20 60 [(0, .int n), (1, .ref hp.1)] [.ref hp.1] _ _
          refine qq_pop dX2_textOf_60 rfl ?_
          refine qq_aload_n dX2_textOf_61 rfl 1 rfl ?_
          refine qq_callVS (bc := 0) (bs := 0) (mc := 2) (ms := 20) (as := []) (rest := []) (o := hp.1) (ci := 1) (N := 4) (T := TJ4) dX2_textOf_62 qb36 rfl (mt_tos H36 _ _ _ _ _ bg36 (by omega) (by omega) (by omega) qb36 qw36 (by omega) (by omega) (by omega)) rfl kl_X2_52 kn_J4_toString_0e30d ke_J4_toString_0e30d ki_J4 kc_J4_toString_0e30d kd_J4_toString_0e30d rfl (by decide) (by decide) (Nat.le_of_ble_eq_true rfl) (fun v H37 hv _ _ => ?_) (fun E hp' zx _ _ => zx.elim)
          obtain ⟨rfl, zz37, zk37⟩ := hv
          rw [zs36] at zz37
          rw [zs36]
          have zs37 : H37.1 = hp.1 + 4 := by omega
          replace zk37 : ∀ j : Nat, j < hp.1 + 2 → H37.2 j = H36.2 j := fun j a => zk37 j (by omega)
          have q37_0 : H37.2 7 = .inl (3, 100, .inl t_d1) := (zk37 7 (by omega)).trans q36_0
          have q37_1 : H37.2 8 = .inl (3, 100, .inl t_d2) := (zk37 8 (by omega)).trans q36_1
          have q37_2 : H37.2 20 = .inr (0, [.ref 30, .int 0]) := (zk37 20 (by omega)).trans q36_2
          have q37_3 : H37.2 30 = .inl (3, 1, .inl sb20) := (zk37 30 (by omega)).trans q36_3
          have q37_4 : H37.2 22 = .inr (0, [.ref 32, .int 0]) := (zk37 22 (by omega)).trans q36_4
          have q37_5 : H37.2 32 = .inl (3, 4, .inl sb22) := (zk37 32 (by omega)).trans q36_5
          have q37_6 : H37.2 hp.1 = .inr (1, [.ref (hp.1 + 1), .int 0, .int 0, .int (Int32.ofNat ((0 + 1) + 4))]) := (zk37 hp.1 (by omega)).trans qb36
          have q37_7 : H37.2 (hp.1 + 1) = .inl (3, 16, .inl g36) := (zk37 (hp.1 + 1) (by omega)).trans qw36
          have zf37 : ∀ j : Nat, j < hp.1 → H37.2 j = hp.2 j := fun j h0 => (zk37 j (by omega)).trans (zf36 j h0)
          show qq_Go _ H37 0 0 65 [(0, .int n), (1, .ref hp.1)] [.ref (hp.1 + 2)] _ _
          exact qq_aret dX2_textOf_65 rfl (Or.inl ⟨_, rfl⟩) (Or.inr ⟨_, rfl⟩) ⟨rfl, zs37, zf37⟩
