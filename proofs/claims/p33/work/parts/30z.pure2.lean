def f_X1_ofKind (kd : Int32) (q : Int32) (u : Int32) : Int64 := if u = 0 then if kd = 1 then 0 ||| 9218868437227405312 else if kd = 2 then 0 ||| (f_take 321 tP (q - (-160))) else if kd = 3 then 0 ||| (f_take 273 tL (q - (-128))) else if kd = 4 then 0 ||| (f_take 164 tG (q - (-3))) else 0 ||| (f_X1_scaled q.toInt64 2) else if kd = 1 then (-9223372036854775808) ||| 9218868437227405312 else if kd = 2 then (-9223372036854775808) ||| (f_take 321 tP (q - (-160))) else if kd = 3 then (-9223372036854775808) ||| (f_take 273 tL (q - (-128))) else if kd = 4 then (-9223372036854775808) ||| (f_take 164 tG (q - (-3))) else (-9223372036854775808) ||| (f_X1_scaled q.toInt64 2)
set_option maxRecDepth 4000 in
theorem mt_X1_ofKind (hp : qq_H) (kd : Int32) (q : Int32) (u : Int32) (hX : qq_ex hp): qq_Mt mX1_ofKind [.int kd, .int q, .int u] hp 0 0 (fun v hp' => v = some (.long (f_X1_ofKind kd q u)) ∧ hp = hp') (fun _ _ => False) := by
  refine qq_met pn_X1 (Nat.le_of_ble_eq_true rfl) (Nat.le_of_ble_eq_true rfl) kc_X1_ofKind ?_
  show qq_Go _ hp 0 0 0 [(0, .int kd), (1, .int q), (2, .int u)] [] _ _
  refine qq_iload_n dX1_ofKind_0 rfl 2 rfl ?_
  refine qq_if_eq (tgt := 10) dX1_ofKind_1 (by decide) (fun zc1 => ?_) (fun zc1 => ?_)
  · refine qq_lconst (v := 0) dX1_ofKind_10 (by decide) ?_
    refine qq_lstore_n (loc' := [(0, .int kd), (1, .int q), (2, .int u), (3, .long 0)]) dX1_ofKind_11 rfl [1, 2, 3, 0] (Nat.le_of_ble_eq_true rfl) rfl ?_
    refine qq_iload_n dX1_ofKind_12 rfl 0 rfl ?_
    by_cases zc2 : kd = 1
    · refine qq_tabIn (off := 31) (tgt := 44) dX1_ofKind_13 (by rw [zc2]; decide) (by rw [zc2]; decide) (by rw [zc2]; decide) (by decide) ?_
      refine qq_lload_n dX1_ofKind_44 rfl 3 rfl ?_
      refine qq_ldc2 (v := 9218868437227405312) dX1_ofKind_45 kl_X1_28 ?_
      refine qq_lor dX1_ofKind_48 ?_
      refine qq_lret dX1_ofKind_49 rfl ⟨?_, rfl⟩
      rw [f_X1_ofKind, if_pos zc1, if_pos zc2]
    · by_cases zc3 : kd = 2
      · refine qq_tabIn (off := 37) (tgt := 50) dX1_ofKind_13 (by rw [zc3]; decide) (by rw [zc3]; decide) (by rw [zc3]; decide) (by decide) ?_
        refine qq_lload_n dX1_ofKind_50 rfl 3 rfl ?_
        refine qq_getsN (C := "Quarterpowers$Rows") (nm := "POWERS") (d := "[J") (host := "Quarterpowers") (v := .ref 1) dX1_ofKind_51 (by decide +kernel) (by decide +kernel) ?_
        refine qq_iload_n dX1_ofKind_54 rfl 1 rfl ?_
        refine qq_sipush (v := (-160)) dX1_ofKind_55 (by decide) ?_
        refine qq_isub dX1_ofKind_58 ?_
        refine qq_callS (bc := 0) (bs := 0) (mc := 0) (ms := 0) (as := [.ref 1, .int (q - (-160))]) (rest := [.long 0]) dX1_ofKind_59 (mt_X3_take hp (n := 321) (f := tP) (q - (-160)) (hX.2 1 (by decide) (by decide)) (by decide)) rfl kl_X1_36 ks_X3_take ki_X3 kc_X3_take kd_X3_take rfl (by decide) (by decide) (Nat.le_of_ble_eq_true rfl) (fun v hp' hv _ _ => ?_) (fun E hp' zx _ _ => zx.elim)
        obtain ⟨rfl, rfl⟩ := hv
        show qq_Go _ hp 0 0 62 [(0, .int kd), (1, .int q), (2, .int u), (3, .long 0)] [.long (f_take 321 tP (q - (-160))), .long 0] _ _
        refine qq_lor dX1_ofKind_62 ?_
        refine qq_lret dX1_ofKind_63 rfl ⟨?_, rfl⟩
        rw [f_X1_ofKind, if_pos zc1, if_neg zc2, if_pos zc3]
      · by_cases zc4 : kd = 3
        · refine qq_tabIn (off := 51) (tgt := 64) dX1_ofKind_13 (by rw [zc4]; decide) (by rw [zc4]; decide) (by rw [zc4]; decide) (by decide) ?_
          refine qq_lload_n dX1_ofKind_64 rfl 3 rfl ?_
          refine qq_getsN (C := "Quarterpowers$Rows") (nm := "LESSENED") (d := "[J") (host := "Quarterpowers") (v := .ref 2) dX1_ofKind_65 (by decide +kernel) (by decide +kernel) ?_
          refine qq_iload_n dX1_ofKind_68 rfl 1 rfl ?_
          refine qq_bipush (v := (-128)) dX1_ofKind_69 (by decide) ?_
          refine qq_isub dX1_ofKind_71 ?_
          refine qq_callS (bc := 0) (bs := 0) (mc := 0) (ms := 0) (as := [.ref 2, .int (q - (-128))]) (rest := [.long 0]) dX1_ofKind_72 (mt_X3_take hp (n := 273) (f := tL) (q - (-128)) (hX.2 2 (by decide) (by decide)) (by decide)) rfl kl_X1_36 ks_X3_take ki_X3 kc_X3_take kd_X3_take rfl (by decide) (by decide) (Nat.le_of_ble_eq_true rfl) (fun v hp' hv _ _ => ?_) (fun E hp' zx _ _ => zx.elim)
          obtain ⟨rfl, rfl⟩ := hv
          show qq_Go _ hp 0 0 75 [(0, .int kd), (1, .int q), (2, .int u), (3, .long 0)] [.long (f_take 273 tL (q - (-128))), .long 0] _ _
          refine qq_lor dX1_ofKind_75 ?_
          refine qq_lret dX1_ofKind_76 rfl ⟨?_, rfl⟩
          rw [f_X1_ofKind, if_pos zc1, if_neg zc2, if_neg zc3, if_pos zc4]
        · by_cases zc5 : kd = 4
          · refine qq_tabIn (off := 64) (tgt := 77) dX1_ofKind_13 (by rw [zc5]; decide) (by rw [zc5]; decide) (by rw [zc5]; decide) (by decide) ?_
            refine qq_lload_n dX1_ofKind_77 rfl 3 rfl ?_
            refine qq_getsN (C := "Quarterpowers$Rows") (nm := "LOGGED") (d := "[J") (host := "Quarterpowers") (v := .ref 3) dX1_ofKind_78 (by decide +kernel) (by decide +kernel) ?_
            refine qq_iload_n dX1_ofKind_81 rfl 1 rfl ?_
            refine qq_bipush (v := (-3)) dX1_ofKind_82 (by decide) ?_
            refine qq_isub dX1_ofKind_84 ?_
            refine qq_callS (bc := 0) (bs := 0) (mc := 0) (ms := 0) (as := [.ref 3, .int (q - (-3))]) (rest := [.long 0]) dX1_ofKind_85 (mt_X3_take hp (n := 164) (f := tG) (q - (-3)) (hX.2 3 (by decide) (by decide)) (by decide)) rfl kl_X1_36 ks_X3_take ki_X3 kc_X3_take kd_X3_take rfl (by decide) (by decide) (Nat.le_of_ble_eq_true rfl) (fun v hp' hv _ _ => ?_) (fun E hp' zx _ _ => zx.elim)
            obtain ⟨rfl, rfl⟩ := hv
            show qq_Go _ hp 0 0 88 [(0, .int kd), (1, .int q), (2, .int u), (3, .long 0)] [.long (f_take 164 tG (q - (-3))), .long 0] _ _
            refine qq_lor dX1_ofKind_88 ?_
            refine qq_lret dX1_ofKind_89 rfl ⟨?_, rfl⟩
            rw [f_X1_ofKind, if_pos zc1, if_neg zc2, if_neg zc3, if_neg zc4, if_pos zc5]
          · refine qq_tabOut (tgt := 90) dX1_ofKind_13 (by have g0 : ¬ kd.toInt = 1 := qm_toInt_ne zc2; have g1 : ¬ kd.toInt = 2 := qm_toInt_ne zc3; have g2 : ¬ kd.toInt = 3 := qm_toInt_ne zc4; have g3 : ¬ kd.toInt = 4 := qm_toInt_ne zc5; omega) (by decide) ?_
            refine qq_lload_n dX1_ofKind_90 rfl 3 rfl ?_
            refine qq_iload_n dX1_ofKind_91 rfl 1 rfl ?_
            refine qq_i2l dX1_ofKind_92 ?_
            refine qq_iconst (v := 2) dX1_ofKind_93 (by decide) ?_
            refine qq_callS (bc := 0) (bs := 0) (mc := 0) (ms := 0) (as := [.long q.toInt64, .int 2]) (rest := [.long 0]) dX1_ofKind_94 (mt_X1_scaled hp q.toInt64 2) rfl kl_X1_46 ks_X1_scaled ki_X1 kc_X1_scaled kd_X1_scaled rfl (by decide) (by decide) (Nat.le_of_ble_eq_true rfl) (fun v hp' hv _ _ => ?_) (fun E hp' h _ _ => h.elim)
            obtain ⟨rfl, rfl⟩ := hv
            show qq_Go _ hp 0 0 97 [(0, .int kd), (1, .int q), (2, .int u), (3, .long 0)] [.long (f_X1_scaled q.toInt64 2), .long 0] _ _
            refine qq_lor dX1_ofKind_97 ?_
            refine qq_lret dX1_ofKind_98 rfl ⟨?_, rfl⟩
            rw [f_X1_ofKind, if_pos zc1, if_neg zc2, if_neg zc3, if_neg zc4, if_neg zc5]
  · refine qq_ldc2 (v := (-9223372036854775808)) dX1_ofKind_4 kl_X1_26 ?_
    refine qq_goto (tgt := 11) dX1_ofKind_7 (by decide) ?_
    refine qq_lstore_n (loc' := [(0, .int kd), (1, .int q), (2, .int u), (3, .long (-9223372036854775808))]) dX1_ofKind_11 rfl [1, 2, 3, 0] (Nat.le_of_ble_eq_true rfl) rfl ?_
    refine qq_iload_n dX1_ofKind_12 rfl 0 rfl ?_
    by_cases zc6 : kd = 1
    · refine qq_tabIn (off := 31) (tgt := 44) dX1_ofKind_13 (by rw [zc6]; decide) (by rw [zc6]; decide) (by rw [zc6]; decide) (by decide) ?_
      refine qq_lload_n dX1_ofKind_44 rfl 3 rfl ?_
      refine qq_ldc2 (v := 9218868437227405312) dX1_ofKind_45 kl_X1_28 ?_
      refine qq_lor dX1_ofKind_48 ?_
      refine qq_lret dX1_ofKind_49 rfl ⟨?_, rfl⟩
      rw [f_X1_ofKind, if_neg zc1, if_pos zc6]
    · by_cases zc7 : kd = 2
      · refine qq_tabIn (off := 37) (tgt := 50) dX1_ofKind_13 (by rw [zc7]; decide) (by rw [zc7]; decide) (by rw [zc7]; decide) (by decide) ?_
        refine qq_lload_n dX1_ofKind_50 rfl 3 rfl ?_
        refine qq_getsN (C := "Quarterpowers$Rows") (nm := "POWERS") (d := "[J") (host := "Quarterpowers") (v := .ref 1) dX1_ofKind_51 (by decide +kernel) (by decide +kernel) ?_
        refine qq_iload_n dX1_ofKind_54 rfl 1 rfl ?_
        refine qq_sipush (v := (-160)) dX1_ofKind_55 (by decide) ?_
        refine qq_isub dX1_ofKind_58 ?_
        refine qq_callS (bc := 0) (bs := 0) (mc := 0) (ms := 0) (as := [.ref 1, .int (q - (-160))]) (rest := [.long (-9223372036854775808)]) dX1_ofKind_59 (mt_X3_take hp (n := 321) (f := tP) (q - (-160)) (hX.2 1 (by decide) (by decide)) (by decide)) rfl kl_X1_36 ks_X3_take ki_X3 kc_X3_take kd_X3_take rfl (by decide) (by decide) (Nat.le_of_ble_eq_true rfl) (fun v hp' hv _ _ => ?_) (fun E hp' zx _ _ => zx.elim)
        obtain ⟨rfl, rfl⟩ := hv
        show qq_Go _ hp 0 0 62 [(0, .int kd), (1, .int q), (2, .int u), (3, .long (-9223372036854775808))] [.long (f_take 321 tP (q - (-160))), .long (-9223372036854775808)] _ _
        refine qq_lor dX1_ofKind_62 ?_
        refine qq_lret dX1_ofKind_63 rfl ⟨?_, rfl⟩
        rw [f_X1_ofKind, if_neg zc1, if_neg zc6, if_pos zc7]
      · by_cases zc8 : kd = 3
        · refine qq_tabIn (off := 51) (tgt := 64) dX1_ofKind_13 (by rw [zc8]; decide) (by rw [zc8]; decide) (by rw [zc8]; decide) (by decide) ?_
          refine qq_lload_n dX1_ofKind_64 rfl 3 rfl ?_
          refine qq_getsN (C := "Quarterpowers$Rows") (nm := "LESSENED") (d := "[J") (host := "Quarterpowers") (v := .ref 2) dX1_ofKind_65 (by decide +kernel) (by decide +kernel) ?_
          refine qq_iload_n dX1_ofKind_68 rfl 1 rfl ?_
          refine qq_bipush (v := (-128)) dX1_ofKind_69 (by decide) ?_
          refine qq_isub dX1_ofKind_71 ?_
          refine qq_callS (bc := 0) (bs := 0) (mc := 0) (ms := 0) (as := [.ref 2, .int (q - (-128))]) (rest := [.long (-9223372036854775808)]) dX1_ofKind_72 (mt_X3_take hp (n := 273) (f := tL) (q - (-128)) (hX.2 2 (by decide) (by decide)) (by decide)) rfl kl_X1_36 ks_X3_take ki_X3 kc_X3_take kd_X3_take rfl (by decide) (by decide) (Nat.le_of_ble_eq_true rfl) (fun v hp' hv _ _ => ?_) (fun E hp' zx _ _ => zx.elim)
          obtain ⟨rfl, rfl⟩ := hv
          show qq_Go _ hp 0 0 75 [(0, .int kd), (1, .int q), (2, .int u), (3, .long (-9223372036854775808))] [.long (f_take 273 tL (q - (-128))), .long (-9223372036854775808)] _ _
          refine qq_lor dX1_ofKind_75 ?_
          refine qq_lret dX1_ofKind_76 rfl ⟨?_, rfl⟩
          rw [f_X1_ofKind, if_neg zc1, if_neg zc6, if_neg zc7, if_pos zc8]
        · by_cases zc9 : kd = 4
          · refine qq_tabIn (off := 64) (tgt := 77) dX1_ofKind_13 (by rw [zc9]; decide) (by rw [zc9]; decide) (by rw [zc9]; decide) (by decide) ?_
            refine qq_lload_n dX1_ofKind_77 rfl 3 rfl ?_
            refine qq_getsN (C := "Quarterpowers$Rows") (nm := "LOGGED") (d := "[J") (host := "Quarterpowers") (v := .ref 3) dX1_ofKind_78 (by decide +kernel) (by decide +kernel) ?_
            refine qq_iload_n dX1_ofKind_81 rfl 1 rfl ?_
            refine qq_bipush (v := (-3)) dX1_ofKind_82 (by decide) ?_
            refine qq_isub dX1_ofKind_84 ?_
            refine qq_callS (bc := 0) (bs := 0) (mc := 0) (ms := 0) (as := [.ref 3, .int (q - (-3))]) (rest := [.long (-9223372036854775808)]) dX1_ofKind_85 (mt_X3_take hp (n := 164) (f := tG) (q - (-3)) (hX.2 3 (by decide) (by decide)) (by decide)) rfl kl_X1_36 ks_X3_take ki_X3 kc_X3_take kd_X3_take rfl (by decide) (by decide) (Nat.le_of_ble_eq_true rfl) (fun v hp' hv _ _ => ?_) (fun E hp' zx _ _ => zx.elim)
            obtain ⟨rfl, rfl⟩ := hv
            show qq_Go _ hp 0 0 88 [(0, .int kd), (1, .int q), (2, .int u), (3, .long (-9223372036854775808))] [.long (f_take 164 tG (q - (-3))), .long (-9223372036854775808)] _ _
            refine qq_lor dX1_ofKind_88 ?_
            refine qq_lret dX1_ofKind_89 rfl ⟨?_, rfl⟩
            rw [f_X1_ofKind, if_neg zc1, if_neg zc6, if_neg zc7, if_neg zc8, if_pos zc9]
          · refine qq_tabOut (tgt := 90) dX1_ofKind_13 (by have g0 : ¬ kd.toInt = 1 := qm_toInt_ne zc6; have g1 : ¬ kd.toInt = 2 := qm_toInt_ne zc7; have g2 : ¬ kd.toInt = 3 := qm_toInt_ne zc8; have g3 : ¬ kd.toInt = 4 := qm_toInt_ne zc9; omega) (by decide) ?_
            refine qq_lload_n dX1_ofKind_90 rfl 3 rfl ?_
            refine qq_iload_n dX1_ofKind_91 rfl 1 rfl ?_
            refine qq_i2l dX1_ofKind_92 ?_
            refine qq_iconst (v := 2) dX1_ofKind_93 (by decide) ?_
            refine qq_callS (bc := 0) (bs := 0) (mc := 0) (ms := 0) (as := [.long q.toInt64, .int 2]) (rest := [.long (-9223372036854775808)]) dX1_ofKind_94 (mt_X1_scaled hp q.toInt64 2) rfl kl_X1_46 ks_X1_scaled ki_X1 kc_X1_scaled kd_X1_scaled rfl (by decide) (by decide) (Nat.le_of_ble_eq_true rfl) (fun v hp' hv _ _ => ?_) (fun E hp' h _ _ => h.elim)
            obtain ⟨rfl, rfl⟩ := hv
            show qq_Go _ hp 0 0 97 [(0, .int kd), (1, .int q), (2, .int u), (3, .long (-9223372036854775808))] [.long (f_X1_scaled q.toInt64 2), .long (-9223372036854775808)] _ _
            refine qq_lor dX1_ofKind_97 ?_
            refine qq_lret dX1_ofKind_98 rfl ⟨?_, rfl⟩
            rw [f_X1_ofKind, if_neg zc1, if_neg zc6, if_neg zc7, if_neg zc8, if_neg zc9]
def f_X1_digitsOf (n : Int32) : Int64 := f_X1_ofKind (f_X2_kindOf n) (f_X2_qOf n) (f_X2_isUnder n)
set_option maxRecDepth 4000 in
theorem mt_X1_digitsOf (hp : qq_H) (n : Int32) (hX : qq_ex hp): qq_Mt mX1_digitsOf [.int n] hp 0 0 (fun v hp' => v = some (.long (f_X1_digitsOf n)) ∧ hp = hp') (fun _ _ => False) := by
  refine qq_met pn_X1 (Nat.le_of_ble_eq_true rfl) (Nat.le_of_ble_eq_true rfl) kc_X1_digitsOf ?_
  show qq_Go _ hp 0 0 0 [(0, .int n)] [] _ _
  refine qq_iload_n dX1_digitsOf_0 rfl 0 rfl ?_
  refine qq_callS (bc := 0) (bs := 0) (mc := 0) (ms := 0) (as := [.int n]) (rest := []) dX1_digitsOf_1 (mt_X2_kindOf hp n) rfl kl_X1_9 ks_X2_kindOf ki_X2 kc_X2_kindOf kd_X2_kindOf rfl (by decide) (by decide) (Nat.le_of_ble_eq_true rfl) (fun v hp' hv _ _ => ?_) (fun E hp' h _ _ => h.elim)
  obtain ⟨rfl, rfl⟩ := hv
  show qq_Go _ hp 0 0 4 [(0, .int n)] [.int (f_X2_kindOf n)] _ _
  refine qq_iload_n dX1_digitsOf_4 rfl 0 rfl ?_
  refine qq_callS (bc := 0) (bs := 0) (mc := 0) (ms := 0) (as := [.int n]) (rest := [.int (f_X2_kindOf n)]) dX1_digitsOf_5 (mt_X2_qOf hp n) rfl kl_X1_15 ks_X2_qOf ki_X2 kc_X2_qOf kd_X2_qOf rfl (by decide) (by decide) (Nat.le_of_ble_eq_true rfl) (fun v hp' hv _ _ => ?_) (fun E hp' h _ _ => h.elim)
  obtain ⟨rfl, rfl⟩ := hv
  show qq_Go _ hp 0 0 8 [(0, .int n)] [.int (f_X2_qOf n), .int (f_X2_kindOf n)] _ _
  refine qq_iload_n dX1_digitsOf_8 rfl 0 rfl ?_
  refine qq_callS (bc := 0) (bs := 0) (mc := 0) (ms := 0) (as := [.int n]) (rest := [.int (f_X2_qOf n), .int (f_X2_kindOf n)]) dX1_digitsOf_9 (mt_X2_isUnder hp n) rfl kl_X1_18 ks_X2_isUnder ki_X2 kc_X2_isUnder kd_X2_isUnder rfl (by decide) (by decide) (Nat.le_of_ble_eq_true rfl) (fun v hp' hv _ _ => ?_) (fun E hp' h _ _ => h.elim)
  obtain ⟨rfl, rfl⟩ := hv
  show qq_Go _ hp 0 0 12 [(0, .int n)] [.int (f_X2_isUnder n), .int (f_X2_qOf n), .int (f_X2_kindOf n)] _ _
  refine qq_callS (bc := 0) (bs := 0) (mc := 0) (ms := 0) (as := [.int (f_X2_kindOf n), .int (f_X2_qOf n), .int (f_X2_isUnder n)]) (rest := []) dX1_digitsOf_12 (mt_X1_ofKind hp (f_X2_kindOf n) (f_X2_qOf n) (f_X2_isUnder n) hX) rfl kl_X1_22 ks_X1_ofKind ki_X1 kc_X1_ofKind kd_X1_ofKind rfl (by decide) (by decide) (Nat.le_of_ble_eq_true rfl) (fun v hp' hv _ _ => ?_) (fun E hp' h _ _ => h.elim)
  obtain ⟨rfl, rfl⟩ := hv
  show qq_Go _ hp 0 0 15 [(0, .int n)] [.long (f_X1_ofKind (f_X2_kindOf n) (f_X2_qOf n) (f_X2_isUnder n))] _ _
  refine qq_lret dX1_digitsOf_15 rfl ⟨?_, rfl⟩
  rfl
def f_X4_digitsAt (how : Int32) (q : Int32) : Int64 := if how = 1 then f_X1_ofKind 2 q 0 else if how = 2 then if 0 ≤ q then f_X1_ofKind 3 q 0 else f_X1_ofKind 3 q 1 else if how = 3 then if 0 ≤ q then f_X1_ofKind 4 q 0 else f_X1_ofKind 4 q 1 else f_X1_scaled q.toInt64 2
set_option maxRecDepth 4000 in
theorem mt_X4_digitsAt (hp : qq_H) (how : Int32) (q : Int32) (hX : qq_ex hp): qq_Mt mX4_digitsAt [.int how, .int q] hp 0 0 (fun v hp' => v = some (.long (f_X4_digitsAt how q)) ∧ hp = hp') (fun _ _ => False) := by
  refine qq_met pn_X4 (Nat.le_of_ble_eq_true rfl) (Nat.le_of_ble_eq_true rfl) kc_X4_digitsAt ?_
  show qq_Go _ hp 0 0 0 [(0, .int how), (1, .int q)] [] _ _
  refine qq_iload_n dX4_digitsAt_0 rfl 0 rfl ?_
  by_cases zc1 : how = 1
  · refine qq_tabIn (off := 27) (tgt := 28) dX4_digitsAt_1 (by rw [zc1]; decide) (by rw [zc1]; decide) (by rw [zc1]; decide) (by decide) ?_
    refine qq_iconst (v := 2) dX4_digitsAt_28 (by decide) ?_
    refine qq_iload_n dX4_digitsAt_29 rfl 1 rfl ?_
    refine qq_iconst (v := 0) dX4_digitsAt_30 (by decide) ?_
    refine qq_callS (bc := 0) (bs := 0) (mc := 0) (ms := 0) (as := [.int 2, .int q, .int 0]) (rest := []) dX4_digitsAt_31 (mt_X1_ofKind hp 2 q 0 hX) rfl kl_X4_22 ks_X1_ofKind ki_X1 kc_X1_ofKind kd_X1_ofKind rfl (by decide) (by decide) (Nat.le_of_ble_eq_true rfl) (fun v hp' hv _ _ => ?_) (fun E hp' h _ _ => h.elim)
    obtain ⟨rfl, rfl⟩ := hv
    show qq_Go _ hp 0 0 34 [(0, .int how), (1, .int q)] [.long (f_X1_ofKind 2 q 0)] _ _
    refine qq_lret dX4_digitsAt_34 rfl ⟨?_, rfl⟩
    rw [f_X4_digitsAt, if_pos zc1]
  · by_cases zc2 : how = 2
    · refine qq_tabIn (off := 34) (tgt := 35) dX4_digitsAt_1 (by rw [zc2]; decide) (by rw [zc2]; decide) (by rw [zc2]; decide) (by decide) ?_
      refine qq_iconst (v := 3) dX4_digitsAt_35 (by decide) ?_
      refine qq_iload_n dX4_digitsAt_36 rfl 1 rfl ?_
      refine qq_iload_n dX4_digitsAt_37 rfl 1 rfl ?_
      refine qq_if_ge (tgt := 45) dX4_digitsAt_38 (by decide) (fun zc3 => ?_) (fun zc3 => ?_)
      · refine qq_iconst (v := 0) dX4_digitsAt_45 (by decide) ?_
        refine qq_callS (bc := 0) (bs := 0) (mc := 0) (ms := 0) (as := [.int 3, .int q, .int 0]) (rest := []) dX4_digitsAt_46 (mt_X1_ofKind hp 3 q 0 hX) rfl kl_X4_22 ks_X1_ofKind ki_X1 kc_X1_ofKind kd_X1_ofKind rfl (by decide) (by decide) (Nat.le_of_ble_eq_true rfl) (fun v hp' hv _ _ => ?_) (fun E hp' h _ _ => h.elim)
        obtain ⟨rfl, rfl⟩ := hv
        show qq_Go _ hp 0 0 49 [(0, .int how), (1, .int q)] [.long (f_X1_ofKind 3 q 0)] _ _
        refine qq_lret dX4_digitsAt_49 rfl ⟨?_, rfl⟩
        rw [f_X4_digitsAt, if_neg zc1, if_pos zc2, if_pos zc3]
      · refine qq_iconst (v := 1) dX4_digitsAt_41 (by decide) ?_
        refine qq_goto (tgt := 46) dX4_digitsAt_42 (by decide) ?_
        refine qq_callS (bc := 0) (bs := 0) (mc := 0) (ms := 0) (as := [.int 3, .int q, .int 1]) (rest := []) dX4_digitsAt_46 (mt_X1_ofKind hp 3 q 1 hX) rfl kl_X4_22 ks_X1_ofKind ki_X1 kc_X1_ofKind kd_X1_ofKind rfl (by decide) (by decide) (Nat.le_of_ble_eq_true rfl) (fun v hp' hv _ _ => ?_) (fun E hp' h _ _ => h.elim)
        obtain ⟨rfl, rfl⟩ := hv
        show qq_Go _ hp 0 0 49 [(0, .int how), (1, .int q)] [.long (f_X1_ofKind 3 q 1)] _ _
        refine qq_lret dX4_digitsAt_49 rfl ⟨?_, rfl⟩
        rw [f_X4_digitsAt, if_neg zc1, if_pos zc2, if_neg zc3]
    · by_cases zc4 : how = 3
      · refine qq_tabIn (off := 49) (tgt := 50) dX4_digitsAt_1 (by rw [zc4]; decide) (by rw [zc4]; decide) (by rw [zc4]; decide) (by decide) ?_
        refine qq_iconst (v := 4) dX4_digitsAt_50 (by decide) ?_
        refine qq_iload_n dX4_digitsAt_51 rfl 1 rfl ?_
        refine qq_iload_n dX4_digitsAt_52 rfl 1 rfl ?_
        refine qq_if_ge (tgt := 60) dX4_digitsAt_53 (by decide) (fun zc5 => ?_) (fun zc5 => ?_)
        · refine qq_iconst (v := 0) dX4_digitsAt_60 (by decide) ?_
          refine qq_callS (bc := 0) (bs := 0) (mc := 0) (ms := 0) (as := [.int 4, .int q, .int 0]) (rest := []) dX4_digitsAt_61 (mt_X1_ofKind hp 4 q 0 hX) rfl kl_X4_22 ks_X1_ofKind ki_X1 kc_X1_ofKind kd_X1_ofKind rfl (by decide) (by decide) (Nat.le_of_ble_eq_true rfl) (fun v hp' hv _ _ => ?_) (fun E hp' h _ _ => h.elim)
          obtain ⟨rfl, rfl⟩ := hv
          show qq_Go _ hp 0 0 64 [(0, .int how), (1, .int q)] [.long (f_X1_ofKind 4 q 0)] _ _
          refine qq_lret dX4_digitsAt_64 rfl ⟨?_, rfl⟩
          rw [f_X4_digitsAt, if_neg zc1, if_neg zc2, if_pos zc4, if_pos zc5]
        · refine qq_iconst (v := 1) dX4_digitsAt_56 (by decide) ?_
          refine qq_goto (tgt := 61) dX4_digitsAt_57 (by decide) ?_
          refine qq_callS (bc := 0) (bs := 0) (mc := 0) (ms := 0) (as := [.int 4, .int q, .int 1]) (rest := []) dX4_digitsAt_61 (mt_X1_ofKind hp 4 q 1 hX) rfl kl_X4_22 ks_X1_ofKind ki_X1 kc_X1_ofKind kd_X1_ofKind rfl (by decide) (by decide) (Nat.le_of_ble_eq_true rfl) (fun v hp' hv _ _ => ?_) (fun E hp' h _ _ => h.elim)
          obtain ⟨rfl, rfl⟩ := hv
          show qq_Go _ hp 0 0 64 [(0, .int how), (1, .int q)] [.long (f_X1_ofKind 4 q 1)] _ _
          refine qq_lret dX4_digitsAt_64 rfl ⟨?_, rfl⟩
          rw [f_X4_digitsAt, if_neg zc1, if_neg zc2, if_pos zc4, if_neg zc5]
      · refine qq_tabOut (tgt := 65) dX4_digitsAt_1 (by have g0 : ¬ how.toInt = 1 := qm_toInt_ne zc1; have g1 : ¬ how.toInt = 2 := qm_toInt_ne zc2; have g2 : ¬ how.toInt = 3 := qm_toInt_ne zc4; omega) (by decide) ?_
        refine qq_iload_n dX4_digitsAt_65 rfl 1 rfl ?_
        refine qq_i2l dX4_digitsAt_66 ?_
        refine qq_iconst (v := 2) dX4_digitsAt_67 (by decide) ?_
        refine qq_callS (bc := 0) (bs := 0) (mc := 0) (ms := 0) (as := [.long q.toInt64, .int 2]) (rest := []) dX4_digitsAt_68 (mt_X1_scaled hp q.toInt64 2) rfl kl_X4_28 ks_X1_scaled ki_X1 kc_X1_scaled kd_X1_scaled rfl (by decide) (by decide) (Nat.le_of_ble_eq_true rfl) (fun v hp' hv _ _ => ?_) (fun E hp' h _ _ => h.elim)
        obtain ⟨rfl, rfl⟩ := hv
        show qq_Go _ hp 0 0 71 [(0, .int how), (1, .int q)] [.long (f_X1_scaled q.toInt64 2)] _ _
        refine qq_lret dX4_digitsAt_71 rfl ⟨?_, rfl⟩
        rw [f_X4_digitsAt, if_neg zc1, if_neg zc2, if_neg zc4]
def lf_X4_countAhead_19 (how : Int32) (w : Int64) : Nat → Int32 → Int32 → Int32 → Int32
  | 0, _, _, _ => 0
  | fu + 1, lo, hi, i => if 10 ≤ i then if how = 0 then if 0 ≤ (f_X1_compare (-9223372036854775808) w) then lo - (f_X4_firstQ how) else (lo - (f_X4_firstQ how)) + 1 else lo - (f_X4_firstQ how) else if hi ≤ lo then if how = 0 then if 0 ≤ (f_X1_compare (-9223372036854775808) w) then lo - (f_X4_firstQ how) else (lo - (f_X4_firstQ how)) + 1 else lo - (f_X4_firstQ how) else if 0 ≤ (f_X1_compare (f_X4_digitsAt how ((lo + hi) >>> ((1 : Int32) &&& 31))) w) then lf_X4_countAhead_19 how w fu lo ((lo + hi) >>> ((1 : Int32) &&& 31)) (i + 1) else lf_X4_countAhead_19 how w fu (((lo + hi) >>> ((1 : Int32) &&& 31)) + 1) hi (i + 1)
set_option maxRecDepth 4000 in
theorem lp_X4_countAhead_19 (hp : qq_H) (hX : qq_ex hp) (how : Int32) (w : Int64) : ∀ (fu : Nat) (lo : Int32) (hi : Int32) (i : Int32), ((10 : Int32).toInt - i.toInt).toNat < fu → qq_Go mX4_countAhead hp 0 0 19 [(0, .int how), (1, .long w), (3, .int (f_X4_firstQ how)), (4, .int lo), (5, .int hi), (6, .int i)] [] (fun v hp' => v = some (.int (lf_X4_countAhead_19 how w fu lo hi i)) ∧ hp = hp') (fun _ _ => False)
  | 0, _, _, _, zh => absurd zh (Nat.not_lt_zero _)
  | fu + 1, lo, hi, i, zh => by
    refine qq_iload dX4_countAhead_19 5 rfl ?_
    refine qq_bipush (v := 10) dX4_countAhead_21 (by decide) ?_
    refine qq_icmp_ge (tgt := 74) dX4_countAhead_23 (by decide) (fun zc1 => ?_) (fun zc1 => ?_)
    · refine qq_iload dX4_countAhead_74 3 rfl ?_
      refine qq_iload_n dX4_countAhead_76 rfl 2 rfl ?_
      refine qq_isub dX4_countAhead_77 ?_
      refine qq_istore (loc' := [(0, .int how), (1, .long w), (3, .int (f_X4_firstQ how)), (4, .int lo), (5, .int hi), (6, .int (lo - (f_X4_firstQ how)))]) dX4_countAhead_78 [1, 2, 3, 4, 5, 0] (Nat.le_of_ble_eq_true rfl) rfl ?_
      refine qq_iload_n dX4_countAhead_80 rfl 0 rfl ?_
      refine qq_if_ne (tgt := 98) dX4_countAhead_81 (by decide) (fun zc2 => ?_) (fun zc2 => ?_)
      · refine qq_iconst (v := 0) dX4_countAhead_98 (by decide) ?_
        refine qq_istore (loc' := [(0, .int how), (1, .long w), (3, .int (f_X4_firstQ how)), (4, .int lo), (5, .int hi), (6, .int (lo - (f_X4_firstQ how))), (7, .int 0)]) dX4_countAhead_99 [1, 2, 3, 4, 5, 6, 0] (Nat.le_of_ble_eq_true rfl) rfl ?_
        refine qq_iload dX4_countAhead_101 6 rfl ?_
        refine qq_if_eq (tgt := 113) dX4_countAhead_103 (by decide) (fun _ => ?_) (fun z => absurd (by decide) z)
        refine qq_iload dX4_countAhead_113 5 rfl ?_
        refine qq_iret dX4_countAhead_115 rfl rfl ⟨?_, rfl⟩
        rw [lf_X4_countAhead_19, if_pos zc1, if_neg zc2]
      · refine qq_ldc2 (v := (-9223372036854775808)) dX4_countAhead_84 kl_X4_40 ?_
        refine qq_lload_n dX4_countAhead_87 rfl 1 rfl ?_
        refine qq_callS (bc := 0) (bs := 0) (mc := 0) (ms := 0) (as := [.long (-9223372036854775808), .long w]) (rest := []) dX4_countAhead_88 (mt_X1_compare hp (-9223372036854775808) w) rfl kl_X4_36 ks_X1_compare ki_X1 kc_X1_compare kd_X1_compare rfl (by decide) (by decide) (Nat.le_of_ble_eq_true rfl) (fun v hp' hv _ _ => ?_) (fun E hp' h _ _ => h.elim)
        obtain ⟨rfl, rfl⟩ := hv
        show qq_Go _ hp 0 0 91 [(0, .int how), (1, .long w), (3, .int (f_X4_firstQ how)), (4, .int lo), (5, .int hi), (6, .int (lo - (f_X4_firstQ how)))] [.int (f_X1_compare (-9223372036854775808) w)] _ _
        refine qq_if_ge (tgt := 98) dX4_countAhead_91 (by decide) (fun zc3 => ?_) (fun zc3 => ?_)
        · refine qq_iconst (v := 0) dX4_countAhead_98 (by decide) ?_
          refine qq_istore (loc' := [(0, .int how), (1, .long w), (3, .int (f_X4_firstQ how)), (4, .int lo), (5, .int hi), (6, .int (lo - (f_X4_firstQ how))), (7, .int 0)]) dX4_countAhead_99 [1, 2, 3, 4, 5, 6, 0] (Nat.le_of_ble_eq_true rfl) rfl ?_
          refine qq_iload dX4_countAhead_101 6 rfl ?_
          refine qq_if_eq (tgt := 113) dX4_countAhead_103 (by decide) (fun _ => ?_) (fun z => absurd (by decide) z)
          refine qq_iload dX4_countAhead_113 5 rfl ?_
          refine qq_iret dX4_countAhead_115 rfl rfl ⟨?_, rfl⟩
          rw [lf_X4_countAhead_19, if_pos zc1, if_pos zc2, if_pos zc3]
        · refine qq_iconst (v := 1) dX4_countAhead_94 (by decide) ?_
          refine qq_goto (tgt := 99) dX4_countAhead_95 (by decide) ?_
          refine qq_istore (loc' := [(0, .int how), (1, .long w), (3, .int (f_X4_firstQ how)), (4, .int lo), (5, .int hi), (6, .int (lo - (f_X4_firstQ how))), (7, .int 1)]) dX4_countAhead_99 [1, 2, 3, 4, 5, 6, 0] (Nat.le_of_ble_eq_true rfl) rfl ?_
          refine qq_iload dX4_countAhead_101 6 rfl ?_
          refine qq_if_eq (tgt := 113) dX4_countAhead_103 (by decide) (fun z => absurd z (by decide)) (fun _ => ?_)
          refine qq_iload dX4_countAhead_106 5 rfl ?_
          refine qq_iconst (v := 1) dX4_countAhead_108 (by decide) ?_
          refine qq_iadd dX4_countAhead_109 ?_
          refine qq_goto (tgt := 115) dX4_countAhead_110 (by decide) ?_
          refine qq_iret dX4_countAhead_115 rfl rfl ⟨?_, rfl⟩
          rw [lf_X4_countAhead_19, if_pos zc1, if_pos zc2, if_neg zc3]
    · refine qq_iload dX4_countAhead_26 3 rfl ?_
      refine qq_iload dX4_countAhead_28 4 rfl ?_
      refine qq_icmp_ge (tgt := 74) dX4_countAhead_30 (by decide) (fun zc4 => ?_) (fun zc4 => ?_)
      · refine qq_iload dX4_countAhead_74 3 rfl ?_
        refine qq_iload_n dX4_countAhead_76 rfl 2 rfl ?_
        refine qq_isub dX4_countAhead_77 ?_
        refine qq_istore (loc' := [(0, .int how), (1, .long w), (3, .int (f_X4_firstQ how)), (4, .int lo), (5, .int hi), (6, .int (lo - (f_X4_firstQ how)))]) dX4_countAhead_78 [1, 2, 3, 4, 5, 0] (Nat.le_of_ble_eq_true rfl) rfl ?_
        refine qq_iload_n dX4_countAhead_80 rfl 0 rfl ?_
        refine qq_if_ne (tgt := 98) dX4_countAhead_81 (by decide) (fun zc5 => ?_) (fun zc5 => ?_)
        · refine qq_iconst (v := 0) dX4_countAhead_98 (by decide) ?_
          refine qq_istore (loc' := [(0, .int how), (1, .long w), (3, .int (f_X4_firstQ how)), (4, .int lo), (5, .int hi), (6, .int (lo - (f_X4_firstQ how))), (7, .int 0)]) dX4_countAhead_99 [1, 2, 3, 4, 5, 6, 0] (Nat.le_of_ble_eq_true rfl) rfl ?_
          refine qq_iload dX4_countAhead_101 6 rfl ?_
          refine qq_if_eq (tgt := 113) dX4_countAhead_103 (by decide) (fun _ => ?_) (fun z => absurd (by decide) z)
          refine qq_iload dX4_countAhead_113 5 rfl ?_
          refine qq_iret dX4_countAhead_115 rfl rfl ⟨?_, rfl⟩
          rw [lf_X4_countAhead_19, if_neg zc1, if_pos zc4, if_neg zc5]
        · refine qq_ldc2 (v := (-9223372036854775808)) dX4_countAhead_84 kl_X4_40 ?_
          refine qq_lload_n dX4_countAhead_87 rfl 1 rfl ?_
          refine qq_callS (bc := 0) (bs := 0) (mc := 0) (ms := 0) (as := [.long (-9223372036854775808), .long w]) (rest := []) dX4_countAhead_88 (mt_X1_compare hp (-9223372036854775808) w) rfl kl_X4_36 ks_X1_compare ki_X1 kc_X1_compare kd_X1_compare rfl (by decide) (by decide) (Nat.le_of_ble_eq_true rfl) (fun v hp' hv _ _ => ?_) (fun E hp' h _ _ => h.elim)
          obtain ⟨rfl, rfl⟩ := hv
          show qq_Go _ hp 0 0 91 [(0, .int how), (1, .long w), (3, .int (f_X4_firstQ how)), (4, .int lo), (5, .int hi), (6, .int (lo - (f_X4_firstQ how)))] [.int (f_X1_compare (-9223372036854775808) w)] _ _
          refine qq_if_ge (tgt := 98) dX4_countAhead_91 (by decide) (fun zc6 => ?_) (fun zc6 => ?_)
          · refine qq_iconst (v := 0) dX4_countAhead_98 (by decide) ?_
            refine qq_istore (loc' := [(0, .int how), (1, .long w), (3, .int (f_X4_firstQ how)), (4, .int lo), (5, .int hi), (6, .int (lo - (f_X4_firstQ how))), (7, .int 0)]) dX4_countAhead_99 [1, 2, 3, 4, 5, 6, 0] (Nat.le_of_ble_eq_true rfl) rfl ?_
            refine qq_iload dX4_countAhead_101 6 rfl ?_
            refine qq_if_eq (tgt := 113) dX4_countAhead_103 (by decide) (fun _ => ?_) (fun z => absurd (by decide) z)
            refine qq_iload dX4_countAhead_113 5 rfl ?_
            refine qq_iret dX4_countAhead_115 rfl rfl ⟨?_, rfl⟩
            rw [lf_X4_countAhead_19, if_neg zc1, if_pos zc4, if_pos zc5, if_pos zc6]
          · refine qq_iconst (v := 1) dX4_countAhead_94 (by decide) ?_
            refine qq_goto (tgt := 99) dX4_countAhead_95 (by decide) ?_
            refine qq_istore (loc' := [(0, .int how), (1, .long w), (3, .int (f_X4_firstQ how)), (4, .int lo), (5, .int hi), (6, .int (lo - (f_X4_firstQ how))), (7, .int 1)]) dX4_countAhead_99 [1, 2, 3, 4, 5, 6, 0] (Nat.le_of_ble_eq_true rfl) rfl ?_
            refine qq_iload dX4_countAhead_101 6 rfl ?_
            refine qq_if_eq (tgt := 113) dX4_countAhead_103 (by decide) (fun z => absurd z (by decide)) (fun _ => ?_)
            refine qq_iload dX4_countAhead_106 5 rfl ?_
            refine qq_iconst (v := 1) dX4_countAhead_108 (by decide) ?_
            refine qq_iadd dX4_countAhead_109 ?_
            refine qq_goto (tgt := 115) dX4_countAhead_110 (by decide) ?_
            refine qq_iret dX4_countAhead_115 rfl rfl ⟨?_, rfl⟩
            rw [lf_X4_countAhead_19, if_neg zc1, if_pos zc4, if_pos zc5, if_neg zc6]
      · refine qq_iload dX4_countAhead_33 3 rfl ?_
        refine qq_iload dX4_countAhead_35 4 rfl ?_
        refine qq_iadd dX4_countAhead_37 ?_
        refine qq_iconst (v := 1) dX4_countAhead_38 (by decide) ?_
        refine qq_ishr dX4_countAhead_39 ?_
        refine qq_istore (loc' := [(0, .int how), (1, .long w), (3, .int (f_X4_firstQ how)), (4, .int lo), (5, .int hi), (6, .int i), (7, .int ((lo + hi) >>> ((1 : Int32) &&& 31)))]) dX4_countAhead_40 [1, 2, 3, 4, 5, 6, 0] (Nat.le_of_ble_eq_true rfl) rfl ?_
        refine qq_iload_n dX4_countAhead_42 rfl 0 rfl ?_
        refine qq_iload dX4_countAhead_43 6 rfl ?_
        refine qq_callS (bc := 0) (bs := 0) (mc := 0) (ms := 0) (as := [.int how, .int ((lo + hi) >>> ((1 : Int32) &&& 31))]) (rest := []) dX4_countAhead_45 (mt_X4_digitsAt hp how ((lo + hi) >>> ((1 : Int32) &&& 31)) hX) rfl kl_X4_32 ks_X4_digitsAt ki_X4 kc_X4_digitsAt kd_X4_digitsAt rfl (by decide) (by decide) (Nat.le_of_ble_eq_true rfl) (fun v hp' hv _ _ => ?_) (fun E hp' h _ _ => h.elim)
        obtain ⟨rfl, rfl⟩ := hv
        show qq_Go _ hp 0 0 48 [(0, .int how), (1, .long w), (3, .int (f_X4_firstQ how)), (4, .int lo), (5, .int hi), (6, .int i), (7, .int ((lo + hi) >>> ((1 : Int32) &&& 31)))] [.long (f_X4_digitsAt how ((lo + hi) >>> ((1 : Int32) &&& 31)))] _ _
        refine qq_lload_n dX4_countAhead_48 rfl 1 rfl ?_
        refine qq_callS (bc := 0) (bs := 0) (mc := 0) (ms := 0) (as := [.long (f_X4_digitsAt how ((lo + hi) >>> ((1 : Int32) &&& 31))), .long w]) (rest := []) dX4_countAhead_49 (mt_X1_compare hp (f_X4_digitsAt how ((lo + hi) >>> ((1 : Int32) &&& 31))) w) rfl kl_X4_36 ks_X1_compare ki_X1 kc_X1_compare kd_X1_compare rfl (by decide) (by decide) (Nat.le_of_ble_eq_true rfl) (fun v hp' hv _ _ => ?_) (fun E hp' h _ _ => h.elim)
        obtain ⟨rfl, rfl⟩ := hv
        show qq_Go _ hp 0 0 52 [(0, .int how), (1, .long w), (3, .int (f_X4_firstQ how)), (4, .int lo), (5, .int hi), (6, .int i), (7, .int ((lo + hi) >>> ((1 : Int32) &&& 31)))] [.int (f_X1_compare (f_X4_digitsAt how ((lo + hi) >>> ((1 : Int32) &&& 31))) w)] _ _
        refine qq_if_ge (tgt := 64) dX4_countAhead_52 (by decide) (fun zc7 => ?_) (fun zc7 => ?_)
        · refine qq_iload dX4_countAhead_64 6 rfl ?_
          refine qq_istore (loc' := [(0, .int how), (1, .long w), (3, .int (f_X4_firstQ how)), (4, .int lo), (5, .int ((lo + hi) >>> ((1 : Int32) &&& 31))), (6, .int i), (7, .int ((lo + hi) >>> ((1 : Int32) &&& 31)))]) dX4_countAhead_66 [1, 2, 3, 4, 0, 5, 6] (Nat.le_of_ble_eq_true rfl) rfl ?_
          refine qq_iinc (v := i + 1) (loc' := [(0, .int how), (1, .long w), (3, .int (f_X4_firstQ how)), (4, .int lo), (5, .int ((lo + hi) >>> ((1 : Int32) &&& 31))), (6, .int (i + 1)), (7, .int ((lo + hi) >>> ((1 : Int32) &&& 31)))]) dX4_countAhead_68 5 rfl rfl [1, 2, 3, 4, 5, 0, 6] (Nat.le_of_ble_eq_true rfl) rfl ?_
          refine qq_goto (tgt := 19) dX4_countAhead_71 (by decide) ?_
          have ze : lf_X4_countAhead_19 how w (fu + 1) lo hi i = lf_X4_countAhead_19 how w fu lo ((lo + hi) >>> ((1 : Int32) &&& 31)) (i + 1) := by
            rw [lf_X4_countAhead_19, if_neg zc1, if_neg zc4, if_pos zc7]
          rw [ze]
          refine qq_loc [0, 1, 2, 3, 4, 5] rfl ?_
          exact lp_X4_countAhead_19 hp hX how w fu lo ((lo + hi) >>> ((1 : Int32) &&& 31)) (i + 1) (qm_up zc1 zh)
        · refine qq_iload dX4_countAhead_55 6 rfl ?_
          refine qq_iconst (v := 1) dX4_countAhead_57 (by decide) ?_
          refine qq_iadd dX4_countAhead_58 ?_
          refine qq_istore (loc' := [(0, .int how), (1, .long w), (3, .int (f_X4_firstQ how)), (4, .int (((lo + hi) >>> ((1 : Int32) &&& 31)) + 1)), (5, .int hi), (6, .int i), (7, .int ((lo + hi) >>> ((1 : Int32) &&& 31)))]) dX4_countAhead_59 [1, 2, 3, 0, 4, 5, 6] (Nat.le_of_ble_eq_true rfl) rfl ?_
          refine qq_goto (tgt := 68) dX4_countAhead_61 (by decide) ?_
          refine qq_iinc (v := i + 1) (loc' := [(0, .int how), (1, .long w), (3, .int (f_X4_firstQ how)), (4, .int (((lo + hi) >>> ((1 : Int32) &&& 31)) + 1)), (5, .int hi), (6, .int (i + 1)), (7, .int ((lo + hi) >>> ((1 : Int32) &&& 31)))]) dX4_countAhead_68 5 rfl rfl [1, 2, 3, 4, 5, 0, 6] (Nat.le_of_ble_eq_true rfl) rfl ?_
          refine qq_goto (tgt := 19) dX4_countAhead_71 (by decide) ?_
          have ze : lf_X4_countAhead_19 how w (fu + 1) lo hi i = lf_X4_countAhead_19 how w fu (((lo + hi) >>> ((1 : Int32) &&& 31)) + 1) hi (i + 1) := by
            rw [lf_X4_countAhead_19, if_neg zc1, if_neg zc4, if_neg zc7]
          rw [ze]
          refine qq_loc [0, 1, 2, 3, 4, 5] rfl ?_
          exact lp_X4_countAhead_19 hp hX how w fu (((lo + hi) >>> ((1 : Int32) &&& 31)) + 1) hi (i + 1) (qm_up zc1 zh)
def f_X4_countAhead (how : Int32) (w : Int64) : Int32 := lf_X4_countAhead_19 how w 11 (f_X4_firstQ how) ((f_X4_lastQ how) + 1) 0
set_option maxRecDepth 4000 in
theorem mt_X4_countAhead (hp : qq_H) (how : Int32) (w : Int64) (hX : qq_ex hp): qq_Mt mX4_countAhead [.int how, .long w] hp 0 0 (fun v hp' => v = some (.int (f_X4_countAhead how w)) ∧ hp = hp') (fun _ _ => False) := by
  refine qq_met pn_X4 (Nat.le_of_ble_eq_true rfl) (Nat.le_of_ble_eq_true rfl) kc_X4_countAhead ?_
  show qq_Go _ hp 0 0 0 [(0, .int how), (1, .long w)] [] _ _
  refine qq_iload_n dX4_countAhead_0 rfl 0 rfl ?_
  refine qq_callS (bc := 0) (bs := 0) (mc := 0) (ms := 0) (as := [.int how]) (rest := []) dX4_countAhead_1 (mt_X4_firstQ hp how) rfl kl_X4_13 ks_X4_firstQ ki_X4 kc_X4_firstQ kd_X4_firstQ rfl (by decide) (by decide) (Nat.le_of_ble_eq_true rfl) (fun v hp' hv _ _ => ?_) (fun E hp' h _ _ => h.elim)
  obtain ⟨rfl, rfl⟩ := hv
  show qq_Go _ hp 0 0 4 [(0, .int how), (1, .long w)] [.int (f_X4_firstQ how)] _ _
  refine qq_istore_n (loc' := [(0, .int how), (1, .long w), (3, .int (f_X4_firstQ how))]) dX4_countAhead_4 rfl [1, 2, 0] (Nat.le_of_ble_eq_true rfl) rfl ?_
  refine qq_iload_n dX4_countAhead_5 rfl 2 rfl ?_
  refine qq_istore (loc' := [(0, .int how), (1, .long w), (3, .int (f_X4_firstQ how)), (4, .int (f_X4_firstQ how))]) dX4_countAhead_6 [1, 2, 3, 0] (Nat.le_of_ble_eq_true rfl) rfl ?_
  refine qq_iload_n dX4_countAhead_8 rfl 0 rfl ?_
  refine qq_callS (bc := 0) (bs := 0) (mc := 0) (ms := 0) (as := [.int how]) (rest := []) dX4_countAhead_9 (mt_X4_lastQ hp how) rfl kl_X4_19 ks_X4_lastQ ki_X4 kc_X4_lastQ kd_X4_lastQ rfl (by decide) (by decide) (Nat.le_of_ble_eq_true rfl) (fun v hp' hv _ _ => ?_) (fun E hp' h _ _ => h.elim)
  obtain ⟨rfl, rfl⟩ := hv
  show qq_Go _ hp 0 0 12 [(0, .int how), (1, .long w), (3, .int (f_X4_firstQ how)), (4, .int (f_X4_firstQ how))] [.int (f_X4_lastQ how)] _ _
  refine qq_iconst (v := 1) dX4_countAhead_12 (by decide) ?_
  refine qq_iadd dX4_countAhead_13 ?_
  refine qq_istore (loc' := [(0, .int how), (1, .long w), (3, .int (f_X4_firstQ how)), (4, .int (f_X4_firstQ how)), (5, .int ((f_X4_lastQ how) + 1))]) dX4_countAhead_14 [1, 2, 3, 4, 0] (Nat.le_of_ble_eq_true rfl) rfl ?_
  refine qq_iconst (v := 0) dX4_countAhead_16 (by decide) ?_
  refine qq_istore (loc' := [(0, .int how), (1, .long w), (3, .int (f_X4_firstQ how)), (4, .int (f_X4_firstQ how)), (5, .int ((f_X4_lastQ how) + 1)), (6, .int 0)]) dX4_countAhead_17 [1, 2, 3, 4, 5, 0] (Nat.le_of_ble_eq_true rfl) rfl ?_
  have ze : f_X4_countAhead how w = lf_X4_countAhead_19 how w 11 (f_X4_firstQ how) ((f_X4_lastQ how) + 1) 0 := by
    rw [f_X4_countAhead]
  rw [ze]
  exact lp_X4_countAhead_19 hp hX how w 11 (f_X4_firstQ how) ((f_X4_lastQ how) + 1) 0 (by decide)
def f_X5_areWithin (a : Int32) (b : Int32) : Int32 := if ((f_X2_mostSteps (f_X2_qOf a)).toInt64) < (f_X1_steps (f_X1_digitsOf a) (f_X1_digitsOf b)) then 0 else 1
theorem bz_X5_areWithin (a : Int32) (b : Int32) : f_X5_areWithin a b = 0 ∨ f_X5_areWithin a b = 1 := by
  unfold f_X5_areWithin
  exact (qq_i01 (Or.inl rfl) (Or.inr rfl))
set_option maxRecDepth 4000 in
theorem mt_X5_areWithin (hp : qq_H) (a : Int32) (b : Int32) (hX : qq_ex hp): qq_Mt mX5_areWithin [.int a, .int b] hp 0 0 (fun v hp' => v = some (.int (f_X5_areWithin a b)) ∧ hp = hp') (fun _ _ => False) := by
  refine qq_met pn_X5 (Nat.le_of_ble_eq_true rfl) (Nat.le_of_ble_eq_true rfl) kc_X5_areWithin ?_
  show qq_Go _ hp 0 0 0 [(0, .int a), (1, .int b)] [] _ _
  refine qq_iload_n dX5_areWithin_0 rfl 0 rfl ?_
  refine qq_callS (bc := 0) (bs := 0) (mc := 0) (ms := 0) (as := [.int a]) (rest := []) dX5_areWithin_1 (mt_X1_digitsOf hp a hX) rfl kl_X5_26 ks_X1_digitsOf ki_X1 kc_X1_digitsOf kd_X1_digitsOf rfl (by decide) (by decide) (Nat.le_of_ble_eq_true rfl) (fun v hp' hv _ _ => ?_) (fun E hp' h _ _ => h.elim)
  obtain ⟨rfl, rfl⟩ := hv
  show qq_Go _ hp 0 0 4 [(0, .int a), (1, .int b)] [.long (f_X1_digitsOf a)] _ _
  refine qq_iload_n dX5_areWithin_4 rfl 1 rfl ?_
  refine qq_callS (bc := 0) (bs := 0) (mc := 0) (ms := 0) (as := [.int b]) (rest := [.long (f_X1_digitsOf a)]) dX5_areWithin_5 (mt_X1_digitsOf hp b hX) rfl kl_X5_26 ks_X1_digitsOf ki_X1 kc_X1_digitsOf kd_X1_digitsOf rfl (by decide) (by decide) (Nat.le_of_ble_eq_true rfl) (fun v hp' hv _ _ => ?_) (fun E hp' h _ _ => h.elim)
  obtain ⟨rfl, rfl⟩ := hv
  show qq_Go _ hp 0 0 8 [(0, .int a), (1, .int b)] [.long (f_X1_digitsOf b), .long (f_X1_digitsOf a)] _ _
  refine qq_callS (bc := 0) (bs := 0) (mc := 0) (ms := 0) (as := [.long (f_X1_digitsOf a), .long (f_X1_digitsOf b)]) (rest := []) dX5_areWithin_8 (mt_X1_steps hp (f_X1_digitsOf a) (f_X1_digitsOf b)) rfl kl_X5_183 ks_X1_steps ki_X1 kc_X1_steps kd_X1_steps rfl (by decide) (by decide) (Nat.le_of_ble_eq_true rfl) (fun v hp' hv _ _ => ?_) (fun E hp' h _ _ => h.elim)
  obtain ⟨rfl, rfl⟩ := hv
  show qq_Go _ hp 0 0 11 [(0, .int a), (1, .int b)] [.long (f_X1_steps (f_X1_digitsOf a) (f_X1_digitsOf b))] _ _
  refine qq_iload_n dX5_areWithin_11 rfl 0 rfl ?_
  refine qq_callS (bc := 0) (bs := 0) (mc := 0) (ms := 0) (as := [.int a]) (rest := [.long (f_X1_steps (f_X1_digitsOf a) (f_X1_digitsOf b))]) dX5_areWithin_12 (mt_X2_qOf hp a) rfl kl_X5_72 ks_X2_qOf ki_X2 kc_X2_qOf kd_X2_qOf rfl (by decide) (by decide) (Nat.le_of_ble_eq_true rfl) (fun v hp' hv _ _ => ?_) (fun E hp' h _ _ => h.elim)
  obtain ⟨rfl, rfl⟩ := hv
  show qq_Go _ hp 0 0 15 [(0, .int a), (1, .int b)] [.int (f_X2_qOf a), .long (f_X1_steps (f_X1_digitsOf a) (f_X1_digitsOf b))] _ _
  refine qq_callS (bc := 0) (bs := 0) (mc := 0) (ms := 0) (as := [.int (f_X2_qOf a)]) (rest := [.long (f_X1_steps (f_X1_digitsOf a) (f_X1_digitsOf b))]) dX5_areWithin_15 (mt_X2_mostSteps hp (f_X2_qOf a)) rfl kl_X5_140 ks_X2_mostSteps ki_X2 kc_X2_mostSteps kd_X2_mostSteps rfl (by decide) (by decide) (Nat.le_of_ble_eq_true rfl) (fun v hp' hv _ _ => ?_) (fun E hp' h _ _ => h.elim)
  obtain ⟨rfl, rfl⟩ := hv
  show qq_Go _ hp 0 0 18 [(0, .int a), (1, .int b)] [.int (f_X2_mostSteps (f_X2_qOf a)), .long (f_X1_steps (f_X1_digitsOf a) (f_X1_digitsOf b))] _ _
  refine qq_i2l dX5_areWithin_18 ?_
  refine qq_lc_gt (tgt := 27) dX5_areWithin_19 dX5_areWithin_20 (by decide) (fun zc1 => ?_) (fun zc1 => ?_)
  · refine qq_iconst (v := 0) dX5_areWithin_27 (by decide) ?_
    refine qq_iret dX5_areWithin_28 rfl rfl ⟨?_, rfl⟩
    rw [f_X5_areWithin, if_pos zc1]
  · refine qq_iconst (v := 1) dX5_areWithin_23 (by decide) ?_
    refine qq_goto (tgt := 28) dX5_areWithin_24 (by decide) ?_
    refine qq_iret dX5_areWithin_28 rfl rfl ⟨?_, rfl⟩
    rw [f_X5_areWithin, if_neg zc1]
def f_X5_liesBetween (q : Int32) : Int32 := if (f_X1_compare (f_X4_digitsAt 2 q) (f_X1_scaled (-1) 0)) ≤ 0 then 0 else if (f_X1_compare (f_X4_digitsAt 2 q) (f_X1_scaled q.toInt64 2)) ≤ 0 then 0 else if 0 ≤ (f_X1_compare (f_X4_digitsAt 2 q) (f_X4_digitsAt 1 q)) then 0 else 1
theorem bz_X5_liesBetween (q : Int32) : f_X5_liesBetween q = 0 ∨ f_X5_liesBetween q = 1 := by
  unfold f_X5_liesBetween
  exact (qq_i01 (Or.inl rfl) (qq_i01 (Or.inl rfl) (qq_i01 (Or.inl rfl) (Or.inr rfl))))
set_option maxRecDepth 4000 in
theorem mt_X5_liesBetween (hp : qq_H) (q : Int32) (hX : qq_ex hp): qq_Mt mX5_liesBetween [.int q] hp 0 0 (fun v hp' => v = some (.int (f_X5_liesBetween q)) ∧ hp = hp') (fun _ _ => False) := by
  refine qq_met pn_X5 (Nat.le_of_ble_eq_true rfl) (Nat.le_of_ble_eq_true rfl) kc_X5_liesBetween ?_
  show qq_Go _ hp 0 0 0 [(0, .int q)] [] _ _
  refine qq_iconst (v := 2) dX5_liesBetween_0 (by decide) ?_
  refine qq_iload_n dX5_liesBetween_1 rfl 0 rfl ?_
  refine qq_callS (bc := 0) (bs := 0) (mc := 0) (ms := 0) (as := [.int 2, .int q]) (rest := []) dX5_liesBetween_2 (mt_X4_digitsAt hp 2 q hX) rfl kl_X5_161 ks_X4_digitsAt ki_X4 kc_X4_digitsAt kd_X4_digitsAt rfl (by decide) (by decide) (Nat.le_of_ble_eq_true rfl) (fun v hp' hv _ _ => ?_) (fun E hp' h _ _ => h.elim)
  obtain ⟨rfl, rfl⟩ := hv
  show qq_Go _ hp 0 0 5 [(0, .int q)] [.long (f_X4_digitsAt 2 q)] _ _
  refine qq_lstore_n (loc' := [(0, .int q), (1, .long (f_X4_digitsAt 2 q))]) dX5_liesBetween_5 rfl [1, 0] (Nat.le_of_ble_eq_true rfl) rfl ?_
  refine qq_lload_n dX5_liesBetween_6 rfl 1 rfl ?_
  refine qq_ldc2 (v := (-1)) dX5_liesBetween_7 kl_X5_241 ?_
  refine qq_iconst (v := 0) dX5_liesBetween_10 (by decide) ?_
  refine qq_callS (bc := 0) (bs := 0) (mc := 0) (ms := 0) (as := [.long (-1), .int 0]) (rest := [.long (f_X4_digitsAt 2 q)]) dX5_liesBetween_11 (mt_X1_scaled hp (-1) 0) rfl kl_X5_167 ks_X1_scaled ki_X1 kc_X1_scaled kd_X1_scaled rfl (by decide) (by decide) (Nat.le_of_ble_eq_true rfl) (fun v hp' hv _ _ => ?_) (fun E hp' h _ _ => h.elim)
  obtain ⟨rfl, rfl⟩ := hv
  show qq_Go _ hp 0 0 14 [(0, .int q), (1, .long (f_X4_digitsAt 2 q))] [.long (f_X1_scaled (-1) 0), .long (f_X4_digitsAt 2 q)] _ _
  refine qq_callS (bc := 0) (bs := 0) (mc := 0) (ms := 0) (as := [.long (f_X4_digitsAt 2 q), .long (f_X1_scaled (-1) 0)]) (rest := []) dX5_liesBetween_14 (mt_X1_compare hp (f_X4_digitsAt 2 q) (f_X1_scaled (-1) 0)) rfl kl_X5_170 ks_X1_compare ki_X1 kc_X1_compare kd_X1_compare rfl (by decide) (by decide) (Nat.le_of_ble_eq_true rfl) (fun v hp' hv _ _ => ?_) (fun E hp' h _ _ => h.elim)
  obtain ⟨rfl, rfl⟩ := hv
  show qq_Go _ hp 0 0 17 [(0, .int q), (1, .long (f_X4_digitsAt 2 q))] [.int (f_X1_compare (f_X4_digitsAt 2 q) (f_X1_scaled (-1) 0))] _ _
  refine qq_if_le (tgt := 49) dX5_liesBetween_17 (by decide) (fun zc1 => ?_) (fun zc1 => ?_)
  · refine qq_iconst (v := 0) dX5_liesBetween_49 (by decide) ?_
    refine qq_iret dX5_liesBetween_50 rfl rfl ⟨?_, rfl⟩
    rw [f_X5_liesBetween, if_pos zc1]
  · refine qq_lload_n dX5_liesBetween_20 rfl 1 rfl ?_
    refine qq_iload_n dX5_liesBetween_21 rfl 0 rfl ?_
    refine qq_i2l dX5_liesBetween_22 ?_
    refine qq_iconst (v := 2) dX5_liesBetween_23 (by decide) ?_
    refine qq_callS (bc := 0) (bs := 0) (mc := 0) (ms := 0) (as := [.long q.toInt64, .int 2]) (rest := [.long (f_X4_digitsAt 2 q)]) dX5_liesBetween_24 (mt_X1_scaled hp q.toInt64 2) rfl kl_X5_167 ks_X1_scaled ki_X1 kc_X1_scaled kd_X1_scaled rfl (by decide) (by decide) (Nat.le_of_ble_eq_true rfl) (fun v hp' hv _ _ => ?_) (fun E hp' h _ _ => h.elim)
    obtain ⟨rfl, rfl⟩ := hv
    show qq_Go _ hp 0 0 27 [(0, .int q), (1, .long (f_X4_digitsAt 2 q))] [.long (f_X1_scaled q.toInt64 2), .long (f_X4_digitsAt 2 q)] _ _
    refine qq_callS (bc := 0) (bs := 0) (mc := 0) (ms := 0) (as := [.long (f_X4_digitsAt 2 q), .long (f_X1_scaled q.toInt64 2)]) (rest := []) dX5_liesBetween_27 (mt_X1_compare hp (f_X4_digitsAt 2 q) (f_X1_scaled q.toInt64 2)) rfl kl_X5_170 ks_X1_compare ki_X1 kc_X1_compare kd_X1_compare rfl (by decide) (by decide) (Nat.le_of_ble_eq_true rfl) (fun v hp' hv _ _ => ?_) (fun E hp' h _ _ => h.elim)
    obtain ⟨rfl, rfl⟩ := hv
    show qq_Go _ hp 0 0 30 [(0, .int q), (1, .long (f_X4_digitsAt 2 q))] [.int (f_X1_compare (f_X4_digitsAt 2 q) (f_X1_scaled q.toInt64 2))] _ _
    refine qq_if_le (tgt := 49) dX5_liesBetween_30 (by decide) (fun zc2 => ?_) (fun zc2 => ?_)
    · refine qq_iconst (v := 0) dX5_liesBetween_49 (by decide) ?_
      refine qq_iret dX5_liesBetween_50 rfl rfl ⟨?_, rfl⟩
      rw [f_X5_liesBetween, if_neg zc1, if_pos zc2]
    · refine qq_lload_n dX5_liesBetween_33 rfl 1 rfl ?_
      refine qq_iconst (v := 1) dX5_liesBetween_34 (by decide) ?_
      refine qq_iload_n dX5_liesBetween_35 rfl 0 rfl ?_
      refine qq_callS (bc := 0) (bs := 0) (mc := 0) (ms := 0) (as := [.int 1, .int q]) (rest := [.long (f_X4_digitsAt 2 q)]) dX5_liesBetween_36 (mt_X4_digitsAt hp 1 q hX) rfl kl_X5_161 ks_X4_digitsAt ki_X4 kc_X4_digitsAt kd_X4_digitsAt rfl (by decide) (by decide) (Nat.le_of_ble_eq_true rfl) (fun v hp' hv _ _ => ?_) (fun E hp' h _ _ => h.elim)
      obtain ⟨rfl, rfl⟩ := hv
      show qq_Go _ hp 0 0 39 [(0, .int q), (1, .long (f_X4_digitsAt 2 q))] [.long (f_X4_digitsAt 1 q), .long (f_X4_digitsAt 2 q)] _ _
      refine qq_callS (bc := 0) (bs := 0) (mc := 0) (ms := 0) (as := [.long (f_X4_digitsAt 2 q), .long (f_X4_digitsAt 1 q)]) (rest := []) dX5_liesBetween_39 (mt_X1_compare hp (f_X4_digitsAt 2 q) (f_X4_digitsAt 1 q)) rfl kl_X5_170 ks_X1_compare ki_X1 kc_X1_compare kd_X1_compare rfl (by decide) (by decide) (Nat.le_of_ble_eq_true rfl) (fun v hp' hv _ _ => ?_) (fun E hp' h _ _ => h.elim)
      obtain ⟨rfl, rfl⟩ := hv
      show qq_Go _ hp 0 0 42 [(0, .int q), (1, .long (f_X4_digitsAt 2 q))] [.int (f_X1_compare (f_X4_digitsAt 2 q) (f_X4_digitsAt 1 q))] _ _
      refine qq_if_ge (tgt := 49) dX5_liesBetween_42 (by decide) (fun zc3 => ?_) (fun zc3 => ?_)
      · refine qq_iconst (v := 0) dX5_liesBetween_49 (by decide) ?_
        refine qq_iret dX5_liesBetween_50 rfl rfl ⟨?_, rfl⟩
        rw [f_X5_liesBetween, if_neg zc1, if_neg zc2, if_pos zc3]
      · refine qq_iconst (v := 1) dX5_liesBetween_45 (by decide) ?_
        refine qq_goto (tgt := 50) dX5_liesBetween_46 (by decide) ?_
        refine qq_iret dX5_liesBetween_50 rfl rfl ⟨?_, rfl⟩
        rw [f_X5_liesBetween, if_neg zc1, if_neg zc2, if_neg zc3]
def f_X5_liesUnderQuarter (q : Int32) : Int32 := if 0 ≤ (f_X1_compare (f_X4_digitsAt 3 q) (f_X1_scaled q.toInt64 2)) then 0 else 1
theorem bz_X5_liesUnderQuarter (q : Int32) : f_X5_liesUnderQuarter q = 0 ∨ f_X5_liesUnderQuarter q = 1 := by
  unfold f_X5_liesUnderQuarter
  exact (qq_i01 (Or.inl rfl) (Or.inr rfl))
set_option maxRecDepth 4000 in
theorem mt_X5_liesUnderQuarter (hp : qq_H) (q : Int32) (hX : qq_ex hp): qq_Mt mX5_liesUnderQuarter [.int q] hp 0 0 (fun v hp' => v = some (.int (f_X5_liesUnderQuarter q)) ∧ hp = hp') (fun _ _ => False) := by
  refine qq_met pn_X5 (Nat.le_of_ble_eq_true rfl) (Nat.le_of_ble_eq_true rfl) kc_X5_liesUnderQuarter ?_
  show qq_Go _ hp 0 0 0 [(0, .int q)] [] _ _
  refine qq_iconst (v := 3) dX5_liesUnderQuarter_0 (by decide) ?_
  refine qq_iload_n dX5_liesUnderQuarter_1 rfl 0 rfl ?_
  refine qq_callS (bc := 0) (bs := 0) (mc := 0) (ms := 0) (as := [.int 3, .int q]) (rest := []) dX5_liesUnderQuarter_2 (mt_X4_digitsAt hp 3 q hX) rfl kl_X5_161 ks_X4_digitsAt ki_X4 kc_X4_digitsAt kd_X4_digitsAt rfl (by decide) (by decide) (Nat.le_of_ble_eq_true rfl) (fun v hp' hv _ _ => ?_) (fun E hp' h _ _ => h.elim)
  obtain ⟨rfl, rfl⟩ := hv
  show qq_Go _ hp 0 0 5 [(0, .int q)] [.long (f_X4_digitsAt 3 q)] _ _
  refine qq_iload_n dX5_liesUnderQuarter_5 rfl 0 rfl ?_
  refine qq_i2l dX5_liesUnderQuarter_6 ?_
  refine qq_iconst (v := 2) dX5_liesUnderQuarter_7 (by decide) ?_
  refine qq_callS (bc := 0) (bs := 0) (mc := 0) (ms := 0) (as := [.long q.toInt64, .int 2]) (rest := [.long (f_X4_digitsAt 3 q)]) dX5_liesUnderQuarter_8 (mt_X1_scaled hp q.toInt64 2) rfl kl_X5_167 ks_X1_scaled ki_X1 kc_X1_scaled kd_X1_scaled rfl (by decide) (by decide) (Nat.le_of_ble_eq_true rfl) (fun v hp' hv _ _ => ?_) (fun E hp' h _ _ => h.elim)
  obtain ⟨rfl, rfl⟩ := hv
  show qq_Go _ hp 0 0 11 [(0, .int q)] [.long (f_X1_scaled q.toInt64 2), .long (f_X4_digitsAt 3 q)] _ _
  refine qq_callS (bc := 0) (bs := 0) (mc := 0) (ms := 0) (as := [.long (f_X4_digitsAt 3 q), .long (f_X1_scaled q.toInt64 2)]) (rest := []) dX5_liesUnderQuarter_11 (mt_X1_compare hp (f_X4_digitsAt 3 q) (f_X1_scaled q.toInt64 2)) rfl kl_X5_170 ks_X1_compare ki_X1 kc_X1_compare kd_X1_compare rfl (by decide) (by decide) (Nat.le_of_ble_eq_true rfl) (fun v hp' hv _ _ => ?_) (fun E hp' h _ _ => h.elim)
  obtain ⟨rfl, rfl⟩ := hv
  show qq_Go _ hp 0 0 14 [(0, .int q)] [.int (f_X1_compare (f_X4_digitsAt 3 q) (f_X1_scaled q.toInt64 2))] _ _
  refine qq_if_ge (tgt := 21) dX5_liesUnderQuarter_14 (by decide) (fun zc1 => ?_) (fun zc1 => ?_)
  · refine qq_iconst (v := 0) dX5_liesUnderQuarter_21 (by decide) ?_
    refine qq_iret dX5_liesUnderQuarter_22 rfl rfl ⟨?_, rfl⟩
    rw [f_X5_liesUnderQuarter, if_pos zc1]
  · refine qq_iconst (v := 1) dX5_liesUnderQuarter_17 (by decide) ?_
    refine qq_goto (tgt := 22) dX5_liesUnderQuarter_18 (by decide) ?_
    refine qq_iret dX5_liesUnderQuarter_22 rfl rfl ⟨?_, rfl⟩
    rw [f_X5_liesUnderQuarter, if_neg zc1]
def f_X5_isInItsPlace (n : Int32) : Int32 := if (f_X2_kindOf n) = 2 then if (f_X1_compare (f_X1_digitsOf n) (f_X1_digitsOf (f_X2_nought 0))) ≤ 0 then 0 else 1 else if (f_X2_kindOf n) = 3 then f_X5_liesBetween (f_X2_qOf n) else if (f_X2_kindOf n) = 4 then f_X5_liesUnderQuarter (f_X2_qOf n) else 1
theorem bz_X5_isInItsPlace (n : Int32) : f_X5_isInItsPlace n = 0 ∨ f_X5_isInItsPlace n = 1 := by
  unfold f_X5_isInItsPlace
  exact (qq_i01 (qq_i01 (Or.inl rfl) (Or.inr rfl)) (qq_i01 (bz_X5_liesBetween (f_X2_qOf n)) (qq_i01 (bz_X5_liesUnderQuarter (f_X2_qOf n)) (Or.inr rfl))))
set_option maxRecDepth 4000 in
theorem mt_X5_isInItsPlace (hp : qq_H) (n : Int32) (hX : qq_ex hp): qq_Mt mX5_isInItsPlace [.int n] hp 0 0 (fun v hp' => v = some (.int (f_X5_isInItsPlace n)) ∧ hp = hp') (fun _ _ => False) := by
  refine qq_met pn_X5 (Nat.le_of_ble_eq_true rfl) (Nat.le_of_ble_eq_true rfl) kc_X5_isInItsPlace ?_
  show qq_Go _ hp 0 0 0 [(0, .int n)] [] _ _
  refine qq_iload_n dX5_isInItsPlace_0 rfl 0 rfl ?_
  refine qq_callS (bc := 0) (bs := 0) (mc := 0) (ms := 0) (as := [.int n]) (rest := []) dX5_isInItsPlace_1 (mt_X2_qOf hp n) rfl kl_X5_72 ks_X2_qOf ki_X2 kc_X2_qOf kd_X2_qOf rfl (by decide) (by decide) (Nat.le_of_ble_eq_true rfl) (fun v hp' hv _ _ => ?_) (fun E hp' h _ _ => h.elim)
  obtain ⟨rfl, rfl⟩ := hv
  show qq_Go _ hp 0 0 4 [(0, .int n)] [.int (f_X2_qOf n)] _ _
  refine qq_istore_n (loc' := [(0, .int n), (1, .int (f_X2_qOf n))]) dX5_isInItsPlace_4 rfl [1, 0] (Nat.le_of_ble_eq_true rfl) rfl ?_
  refine qq_iload_n dX5_isInItsPlace_5 rfl 0 rfl ?_
  refine qq_callS (bc := 0) (bs := 0) (mc := 0) (ms := 0) (as := [.int n]) (rest := []) dX5_isInItsPlace_6 (mt_X2_kindOf hp n) rfl kl_X5_75 ks_X2_kindOf ki_X2 kc_X2_kindOf kd_X2_kindOf rfl (by decide) (by decide) (Nat.le_of_ble_eq_true rfl) (fun v hp' hv _ _ => ?_) (fun E hp' h _ _ => h.elim)
  obtain ⟨rfl, rfl⟩ := hv
  show qq_Go _ hp 0 0 9 [(0, .int n), (1, .int (f_X2_qOf n))] [.int (f_X2_kindOf n)] _ _
  by_cases zc1 : (f_X2_kindOf n) = 2
  · refine qq_tabIn (off := 27) (tgt := 36) dX5_isInItsPlace_9 (by rw [zc1]; decide) (by rw [zc1]; decide) (by rw [zc1]; decide) (by decide) ?_
    refine qq_iload_n dX5_isInItsPlace_36 rfl 0 rfl ?_
    refine qq_callS (bc := 0) (bs := 0) (mc := 0) (ms := 0) (as := [.int n]) (rest := []) dX5_isInItsPlace_37 (mt_X1_digitsOf hp n hX) rfl kl_X5_26 ks_X1_digitsOf ki_X1 kc_X1_digitsOf kd_X1_digitsOf rfl (by decide) (by decide) (Nat.le_of_ble_eq_true rfl) (fun v hp' hv _ _ => ?_) (fun E hp' h _ _ => h.elim)
    obtain ⟨rfl, rfl⟩ := hv
    show qq_Go _ hp 0 0 40 [(0, .int n), (1, .int (f_X2_qOf n))] [.long (f_X1_digitsOf n)] _ _
    refine qq_iconst (v := 0) dX5_isInItsPlace_40 (by decide) ?_
    refine qq_callS (bc := 0) (bs := 0) (mc := 0) (ms := 0) (as := [.int 0]) (rest := [.long (f_X1_digitsOf n)]) dX5_isInItsPlace_41 (mt_X2_nought hp 0) rfl kl_X5_20 ks_X2_nought ki_X2 kc_X2_nought kd_X2_nought rfl (by decide) (by decide) (Nat.le_of_ble_eq_true rfl) (fun v hp' hv _ _ => ?_) (fun E hp' h _ _ => h.elim)
    obtain ⟨rfl, rfl⟩ := hv
    show qq_Go _ hp 0 0 44 [(0, .int n), (1, .int (f_X2_qOf n))] [.int (f_X2_nought 0), .long (f_X1_digitsOf n)] _ _
    refine qq_callS (bc := 0) (bs := 0) (mc := 0) (ms := 0) (as := [.int (f_X2_nought 0)]) (rest := [.long (f_X1_digitsOf n)]) dX5_isInItsPlace_44 (mt_X1_digitsOf hp (f_X2_nought 0) hX) rfl kl_X5_26 ks_X1_digitsOf ki_X1 kc_X1_digitsOf kd_X1_digitsOf rfl (by decide) (by decide) (Nat.le_of_ble_eq_true rfl) (fun v hp' hv _ _ => ?_) (fun E hp' h _ _ => h.elim)
    obtain ⟨rfl, rfl⟩ := hv
    show qq_Go _ hp 0 0 47 [(0, .int n), (1, .int (f_X2_qOf n))] [.long (f_X1_digitsOf (f_X2_nought 0)), .long (f_X1_digitsOf n)] _ _
    refine qq_callS (bc := 0) (bs := 0) (mc := 0) (ms := 0) (as := [.long (f_X1_digitsOf n), .long (f_X1_digitsOf (f_X2_nought 0))]) (rest := []) dX5_isInItsPlace_47 (mt_X1_compare hp (f_X1_digitsOf n) (f_X1_digitsOf (f_X2_nought 0))) rfl kl_X5_170 ks_X1_compare ki_X1 kc_X1_compare kd_X1_compare rfl (by decide) (by decide) (Nat.le_of_ble_eq_true rfl) (fun v hp' hv _ _ => ?_) (fun E hp' h _ _ => h.elim)
    obtain ⟨rfl, rfl⟩ := hv
    show qq_Go _ hp 0 0 50 [(0, .int n), (1, .int (f_X2_qOf n))] [.int (f_X1_compare (f_X1_digitsOf n) (f_X1_digitsOf (f_X2_nought 0)))] _ _
    refine qq_if_le (tgt := 57) dX5_isInItsPlace_50 (by decide) (fun zc2 => ?_) (fun zc2 => ?_)
    · refine qq_iconst (v := 0) dX5_isInItsPlace_57 (by decide) ?_
      refine qq_iret dX5_isInItsPlace_58 rfl rfl ⟨?_, rfl⟩
      rw [f_X5_isInItsPlace, if_pos zc1, if_pos zc2]
    · refine qq_iconst (v := 1) dX5_isInItsPlace_53 (by decide) ?_
      refine qq_goto (tgt := 58) dX5_isInItsPlace_54 (by decide) ?_
      refine qq_iret dX5_isInItsPlace_58 rfl rfl ⟨?_, rfl⟩
      rw [f_X5_isInItsPlace, if_pos zc1, if_neg zc2]
  · by_cases zc3 : (f_X2_kindOf n) = 3
    · refine qq_tabIn (off := 50) (tgt := 59) dX5_isInItsPlace_9 (by rw [zc3]; decide) (by rw [zc3]; decide) (by rw [zc3]; decide) (by decide) ?_
      refine qq_iload_n dX5_isInItsPlace_59 rfl 1 rfl ?_
      refine qq_callS (bc := 0) (bs := 0) (mc := 0) (ms := 0) (as := [.int (f_X2_qOf n)]) (rest := []) dX5_isInItsPlace_60 (mt_X5_liesBetween hp (f_X2_qOf n) hX) rfl kl_X5_174 ks_X5_liesBetween ki_X5 kc_X5_liesBetween kd_X5_liesBetween rfl (by decide) (by decide) (Nat.le_of_ble_eq_true rfl) (fun v hp' hv _ _ => ?_) (fun E hp' h _ _ => h.elim)
      obtain ⟨rfl, rfl⟩ := hv
      show qq_Go _ hp 0 0 63 [(0, .int n), (1, .int (f_X2_qOf n))] [.int (f_X5_liesBetween (f_X2_qOf n))] _ _
      refine qq_iret dX5_isInItsPlace_63 rfl (qq_nz (bz_X5_liesBetween (f_X2_qOf n))) ⟨?_, rfl⟩
      rw [f_X5_isInItsPlace, if_neg zc1, if_pos zc3]
    · by_cases zc4 : (f_X2_kindOf n) = 4
      · refine qq_tabIn (off := 55) (tgt := 64) dX5_isInItsPlace_9 (by rw [zc4]; decide) (by rw [zc4]; decide) (by rw [zc4]; decide) (by decide) ?_
        refine qq_iload_n dX5_isInItsPlace_64 rfl 1 rfl ?_
        refine qq_callS (bc := 0) (bs := 0) (mc := 0) (ms := 0) (as := [.int (f_X2_qOf n)]) (rest := []) dX5_isInItsPlace_65 (mt_X5_liesUnderQuarter hp (f_X2_qOf n) hX) rfl kl_X5_177 ks_X5_liesUnderQuarter ki_X5 kc_X5_liesUnderQuarter kd_X5_liesUnderQuarter rfl (by decide) (by decide) (Nat.le_of_ble_eq_true rfl) (fun v hp' hv _ _ => ?_) (fun E hp' h _ _ => h.elim)
        obtain ⟨rfl, rfl⟩ := hv
        show qq_Go _ hp 0 0 68 [(0, .int n), (1, .int (f_X2_qOf n))] [.int (f_X5_liesUnderQuarter (f_X2_qOf n))] _ _
        refine qq_iret dX5_isInItsPlace_68 rfl (qq_nz (bz_X5_liesUnderQuarter (f_X2_qOf n))) ⟨?_, rfl⟩
        rw [f_X5_isInItsPlace, if_neg zc1, if_neg zc3, if_pos zc4]
      · refine qq_tabOut (tgt := 69) dX5_isInItsPlace_9 (by have g0 : ¬ (f_X2_kindOf n).toInt = 2 := qm_toInt_ne zc1; have g1 : ¬ (f_X2_kindOf n).toInt = 3 := qm_toInt_ne zc3; have g2 : ¬ (f_X2_kindOf n).toInt = 4 := qm_toInt_ne zc4; omega) (by decide) ?_
        refine qq_iconst (v := 1) dX5_isInItsPlace_69 (by decide) ?_
        refine qq_iret dX5_isInItsPlace_70 rfl rfl ⟨?_, rfl⟩
        rw [f_X5_isInItsPlace, if_neg zc1, if_neg zc3, if_neg zc4]
