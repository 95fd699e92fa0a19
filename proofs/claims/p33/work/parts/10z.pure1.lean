/-! counters -/
theorem qm_inc {i N : Int32} (c : ¬ N ≤ i) : (i + 1).toInt = i.toInt + 1 := by
  have h1 := Int32.toInt_lt N
  have h2 : i.toInt < N.toInt := by
    rw [Int32.le_iff_toInt_le] at c
    omega
  have h3 := Int32.le_toInt i
  rw [Int32.toInt_add]
  show (i.toInt + 1).bmod _ = _
  rw [Int.bmod_eq_of_le (by omega) (by omega)]
theorem qm_up {i N : Int32} {fu : Nat} (c : ¬ N ≤ i) (h : (N.toInt - i.toInt).toNat < fu + 1) : (N.toInt - (i + 1).toInt).toNat < fu := by
  have h2 : i.toInt < N.toInt := by
    rw [Int32.le_iff_toInt_le] at c
    omega
  rw [qm_inc c]
  omega
theorem qm_in {i : Int32} {n : Nat} (h0 : ¬ i < 0) (h1 : ¬ Int32.ofNat n ≤ i) (hn : n < 2 ^ 31) : vp_in i n := by
  rw [vp_in_iff]
  rw [Int32.lt_iff_toInt_lt] at h0
  rw [Int32.le_iff_toInt_le] at h1
  have e : (Int32.ofNat n).toInt = n := nI_toInt hn
  have e0 : (0 : Int32).toInt = 0 := rfl
  omega
theorem qq_swo3 {x : Int32} (h1 : ¬ x = 1) (h2 : ¬ x = 2) (h3 : ¬ x = 3) : x.toInt < 1 ∨ 3 < x.toInt := by
  have a1 : ¬ x.toInt = 1 := fun h => h1 (Int32.toInt_inj.mp h)
  have a2 : ¬ x.toInt = 2 := fun h => h2 (Int32.toInt_inj.mp h)
  have a3 : ¬ x.toInt = 3 := fun h => h3 (Int32.toInt_inj.mp h)
  omega
theorem qm_toInt_ne {x : Int32} {n : Int32} (h : ¬ x = n) : ¬ x.toInt = n.toInt := fun z => h (Int32.toInt_inj.mp z)
theorem qq_nz {v : Int32} (h : v = 0 ∨ v = 1) : narrow .boolean (.int v) = .int v := by
  rcases h with rfl | rfl <;> rfl
theorem qq_i01 {c : Prop} [Decidable c] {a b : Int32} (ha : a = 0 ∨ a = 1) (hb : b = 0 ∨ b = 1) : (if c then a else b) = 0 ∨ (if c then a else b) = 1 := by
  by_cases h : c
  · rw [if_pos h]; exact ha
  · rw [if_neg h]; exact hb
theorem qm_in8 {i : Int32} (h0 : ¬ i < 0) (h1 : ¬ 8 ≤ i) : vp_in i 8 := qm_in (n := 8) h0 h1 (by decide)
theorem qm_nlt {a b : Int32} (h : ¬ a < b) : b ≤ a := by
  rw [Int32.lt_iff_toInt_lt] at h
  rw [Int32.le_iff_toInt_le]
  omega
theorem qm_ltn {a b : Int32} (h : a < b) : ¬ b ≤ a := by
  rw [Int32.lt_iff_toInt_lt] at h
  rw [Int32.le_iff_toInt_le]
  omega
theorem qm_nle {a b : Int32} (h : ¬ a ≤ b) : b < a := by
  rw [Int32.le_iff_toInt_le] at h
  rw [Int32.lt_iff_toInt_lt]
  omega
theorem qm_len {a b : Int32} (h : a ≤ b) : ¬ b < a := by
  rw [Int32.le_iff_toInt_le] at h
  rw [Int32.lt_iff_toInt_lt]
  omega
theorem qm_nltJ {a b : Int64} (h : ¬ a < b) : b ≤ a := by
  rw [Int64.lt_iff_toInt_lt] at h
  rw [Int64.le_iff_toInt_le]
  omega
theorem qm_lenJ {a b : Int64} (h : a ≤ b) : ¬ b < a := by
  rw [Int64.le_iff_toInt_le] at h
  rw [Int64.lt_iff_toInt_lt]
  omega
theorem qm_nleJ {a b : Int64} (h : ¬ a ≤ b) : b < a := by
  rw [Int64.le_iff_toInt_le] at h
  rw [Int64.lt_iff_toInt_lt]
  omega
theorem qm_pos {i N : Int32} (h0 : ¬ i < 0) (c : ¬ N ≤ i) : ¬ i + 1 < 0 := by
  have h := qm_inc c
  rw [Int32.lt_iff_toInt_lt] at h0 ⊢
  have e0 : (0 : Int32).toInt = 0 := rfl
  omega
theorem qm_fu {j : Int32} (h : ¬ j < 0) : ((8 : Int32).toInt - j.toInt).toNat < 9 := by
  rw [Int32.lt_iff_toInt_lt] at h
  have e0 : (0 : Int32).toInt = 0 := rfl
  have e8 : (8 : Int32).toInt = 8 := rfl
  omega
theorem qm_incL {i N : Int32} (c : ¬ N < i) (hN : N.toInt < 2147483647) : (i + 1).toInt = i.toInt + 1 := by
  rw [Int32.lt_iff_toInt_lt] at c
  have h3 := Int32.le_toInt i
  rw [Int32.toInt_add]
  show (i.toInt + 1).bmod _ = _
  rw [Int.bmod_eq_of_le (by omega) (by omega)]
theorem qm_upL {i N : Int32} {fu : Nat} (c : ¬ N < i) (hN : N.toInt < 2147483647) (h : (N.toInt + 1 - i.toInt).toNat < fu + 1) : (N.toInt + 1 - (i + 1).toInt).toNat < fu := by
  rw [qm_incL c hN]
  rw [Int32.lt_iff_toInt_lt] at c
  omega
theorem qm_posL {i N : Int32} (h0 : ¬ i < 0) (c : ¬ N < i) (hN : N.toInt < 2147483647) : ¬ i + 1 < 0 := by
  have h := qm_incL c hN
  rw [Int32.lt_iff_toInt_lt] at h0 ⊢
  have e0 : (0 : Int32).toInt = 0 := rfl
  omega
theorem qm_dec {i : Int32} (c : ¬ i ≤ 0) : (i - 1).toInt = i.toInt - 1 := by
  rw [Int32.le_iff_toInt_le] at c
  have e0 : (0 : Int32).toInt = 0 := rfl
  have h3 := Int32.toInt_lt i
  rw [Int32.toInt_sub]
  show (i.toInt - 1).bmod _ = _
  rw [Int.bmod_eq_of_le (by omega) (by omega)]
theorem qm_in8d {i : Int32} (c : ¬ i ≤ 0) (h : vp_in i 8) : vp_in (i - 1) 8 := by
  rw [vp_in_iff] at h ⊢
  have e := qm_dec c
  rw [Int32.le_iff_toInt_le] at c
  have e0 : (0 : Int32).toInt = 0 := rfl
  omega
theorem qm_m1 (i : Int32) : i + -1 = i - 1 := (Int32.sub_eq_add_neg i 1).symm
theorem qm_dn {i : Int32} {fu : Nat} (c : ¬ i ≤ 0) (h : i.toInt.toNat < fu + 1) : (i + -1).toInt.toNat < fu := by
  rw [qm_m1, qm_dec c]
  rw [Int32.le_iff_toInt_le] at c
  have e0 : (0 : Int32).toInt = 0 := rfl
  omega
theorem qm_in8e {i : Int32} (c : ¬ i ≤ 0) (h : vp_in i 8) : vp_in (i + -1) 8 := qm_m1 i ▸ qm_in8d c h
theorem qm_fuD {i : Int32} (h0 : ¬ i < 0) (h : ¬ 8 ≤ i) : i.toInt.toNat < 9 := by
  rw [Int32.le_iff_toInt_le] at h
  have e8 : (8 : Int32).toInt = 8 := rfl
  omega

def f_X2_kindOf (n : Int32) : Int32 := n >>> ((12 : Int32) &&& 31)
set_option maxRecDepth 4000 in
theorem mt_X2_kindOf (hp : qq_H) (n : Int32) : qq_Mt mX2_kindOf [.int n] hp 0 0 (fun v hp' => v = some (.int (f_X2_kindOf n)) ∧ hp = hp') (fun _ _ => False) := by
  refine qq_met pn_X2 (Nat.le_of_ble_eq_true rfl) (Nat.le_of_ble_eq_true rfl) kc_X2_kindOf ?_
  show qq_Go _ hp 0 0 0 [(0, .int n)] [] _ _
  refine qq_iload_n dX2_kindOf_0 rfl 0 rfl ?_
  refine qq_bipush (v := 12) dX2_kindOf_1 (by decide) ?_
  refine qq_ishr dX2_kindOf_3 ?_
  refine qq_iret dX2_kindOf_4 rfl rfl ⟨?_, rfl⟩
  rfl
def f_X2_qOf (n : Int32) : Int32 := (n &&& 2047) - 1024
set_option maxRecDepth 4000 in
theorem mt_X2_qOf (hp : qq_H) (n : Int32) : qq_Mt mX2_qOf [.int n] hp 0 0 (fun v hp' => v = some (.int (f_X2_qOf n)) ∧ hp = hp') (fun _ _ => False) := by
  refine qq_met pn_X2 (Nat.le_of_ble_eq_true rfl) (Nat.le_of_ble_eq_true rfl) kc_X2_qOf ?_
  show qq_Go _ hp 0 0 0 [(0, .int n)] [] _ _
  refine qq_iload_n dX2_qOf_0 rfl 0 rfl ?_
  refine qq_sipush (v := 2047) dX2_qOf_1 (by decide) ?_
  refine qq_iand dX2_qOf_4 ?_
  refine qq_sipush (v := 1024) dX2_qOf_5 (by decide) ?_
  refine qq_isub dX2_qOf_8 ?_
  refine qq_iret dX2_qOf_9 rfl rfl ⟨?_, rfl⟩
  rfl
def f_X2_isUnder (n : Int32) : Int32 := if (n &&& 2048) = 0 then 0 else 1
theorem bz_X2_isUnder (n : Int32) : f_X2_isUnder n = 0 ∨ f_X2_isUnder n = 1 := by
  unfold f_X2_isUnder
  exact (qq_i01 (Or.inl rfl) (Or.inr rfl))
set_option maxRecDepth 4000 in
theorem mt_X2_isUnder (hp : qq_H) (n : Int32) : qq_Mt mX2_isUnder [.int n] hp 0 0 (fun v hp' => v = some (.int (f_X2_isUnder n)) ∧ hp = hp') (fun _ _ => False) := by
  refine qq_met pn_X2 (Nat.le_of_ble_eq_true rfl) (Nat.le_of_ble_eq_true rfl) kc_X2_isUnder ?_
  show qq_Go _ hp 0 0 0 [(0, .int n)] [] _ _
  refine qq_iload_n dX2_isUnder_0 rfl 0 rfl ?_
  refine qq_sipush (v := 2048) dX2_isUnder_1 (by decide) ?_
  refine qq_iand dX2_isUnder_4 ?_
  refine qq_if_eq (tgt := 12) dX2_isUnder_5 (by decide) (fun zc1 => ?_) (fun zc1 => ?_)
  · refine qq_iconst (v := 0) dX2_isUnder_12 (by decide) ?_
    refine qq_iret dX2_isUnder_13 rfl rfl ⟨?_, rfl⟩
    rw [f_X2_isUnder, if_pos zc1]
  · refine qq_iconst (v := 1) dX2_isUnder_8 (by decide) ?_
    refine qq_goto (tgt := 13) dX2_isUnder_9 (by decide) ?_
    refine qq_iret dX2_isUnder_13 rfl rfl ⟨?_, rfl⟩
    rw [f_X2_isUnder, if_neg zc1]
def f_X2_makeSigned (kd : Int32) (q : Int32) (u : Int32) : Int32 := if u = 0 then ((kd <<< ((12 : Int32) &&& 31)) ||| 0) ||| (q + 1024) else ((kd <<< ((12 : Int32) &&& 31)) ||| 2048) ||| (q + 1024)
set_option maxRecDepth 4000 in
theorem mt_X2_makeSigned (hp : qq_H) (kd : Int32) (q : Int32) (u : Int32) : qq_Mt mX2_makeSigned [.int kd, .int q, .int u] hp 0 0 (fun v hp' => v = some (.int (f_X2_makeSigned kd q u)) ∧ hp = hp') (fun _ _ => False) := by
  refine qq_met pn_X2 (Nat.le_of_ble_eq_true rfl) (Nat.le_of_ble_eq_true rfl) kc_X2_makeSigned ?_
  show qq_Go _ hp 0 0 0 [(0, .int kd), (1, .int q), (2, .int u)] [] _ _
  refine qq_iload_n dX2_makeSigned_0 rfl 0 rfl ?_
  refine qq_bipush (v := 12) dX2_makeSigned_1 (by decide) ?_
  refine qq_ishl dX2_makeSigned_3 ?_
  refine qq_iload_n dX2_makeSigned_4 rfl 2 rfl ?_
  refine qq_if_eq (tgt := 14) dX2_makeSigned_5 (by decide) (fun zc1 => ?_) (fun zc1 => ?_)
  · refine qq_iconst (v := 0) dX2_makeSigned_14 (by decide) ?_
    refine qq_ior dX2_makeSigned_15 ?_
    refine qq_iload_n dX2_makeSigned_16 rfl 1 rfl ?_
    refine qq_sipush (v := 1024) dX2_makeSigned_17 (by decide) ?_
    refine qq_iadd dX2_makeSigned_20 ?_
    refine qq_ior dX2_makeSigned_21 ?_
    refine qq_iret dX2_makeSigned_22 rfl rfl ⟨?_, rfl⟩
    rw [f_X2_makeSigned, if_pos zc1]
  · refine qq_sipush (v := 2048) dX2_makeSigned_8 (by decide) ?_
    refine qq_goto (tgt := 15) dX2_makeSigned_11 (by decide) ?_
    refine qq_ior dX2_makeSigned_15 ?_
    refine qq_iload_n dX2_makeSigned_16 rfl 1 rfl ?_
    refine qq_sipush (v := 1024) dX2_makeSigned_17 (by decide) ?_
    refine qq_iadd dX2_makeSigned_20 ?_
    refine qq_ior dX2_makeSigned_21 ?_
    refine qq_iret dX2_makeSigned_22 rfl rfl ⟨?_, rfl⟩
    rw [f_X2_makeSigned, if_neg zc1]
def f_X2_make (kd : Int32) (q : Int32) : Int32 := if 0 ≤ q then f_X2_makeSigned kd q 0 else if kd = 2 then f_X2_makeSigned kd q 0 else f_X2_makeSigned kd q 1
set_option maxRecDepth 4000 in
theorem mt_X2_make (hp : qq_H) (kd : Int32) (q : Int32) : qq_Mt mX2_make [.int kd, .int q] hp 0 0 (fun v hp' => v = some (.int (f_X2_make kd q)) ∧ hp = hp') (fun _ _ => False) := by
  refine qq_met pn_X2 (Nat.le_of_ble_eq_true rfl) (Nat.le_of_ble_eq_true rfl) kc_X2_make ?_
  show qq_Go _ hp 0 0 0 [(0, .int kd), (1, .int q)] [] _ _
  refine qq_iload_n dX2_make_0 rfl 0 rfl ?_
  refine qq_iload_n dX2_make_1 rfl 1 rfl ?_
  refine qq_iload_n dX2_make_2 rfl 1 rfl ?_
  refine qq_if_ge (tgt := 15) dX2_make_3 (by decide) (fun zc1 => ?_) (fun zc1 => ?_)
  · refine qq_iconst (v := 0) dX2_make_15 (by decide) ?_
    refine qq_callS (bc := 0) (bs := 0) (mc := 0) (ms := 0) (as := [.int kd, .int q, .int 0]) (rest := []) dX2_make_16 (mt_X2_makeSigned hp kd q 0) rfl kl_X2_9 ks_X2_makeSigned ki_X2 kc_X2_makeSigned kd_X2_makeSigned rfl (by decide) (by decide) (Nat.le_of_ble_eq_true rfl) (fun v hp' hv _ _ => ?_) (fun E hp' h _ _ => h.elim)
    obtain ⟨rfl, rfl⟩ := hv
    show qq_Go _ hp 0 0 19 [(0, .int kd), (1, .int q)] [.int (f_X2_makeSigned kd q 0)] _ _
    refine qq_iret dX2_make_19 rfl rfl ⟨?_, rfl⟩
    rw [f_X2_make, if_pos zc1]
  · refine qq_iload_n dX2_make_6 rfl 0 rfl ?_
    refine qq_iconst (v := 2) dX2_make_7 (by decide) ?_
    refine qq_icmp_eq (tgt := 15) dX2_make_8 (by decide) (fun zc2 => ?_) (fun zc2 => ?_)
    · refine qq_iconst (v := 0) dX2_make_15 (by decide) ?_
      refine qq_callS (bc := 0) (bs := 0) (mc := 0) (ms := 0) (as := [.int kd, .int q, .int 0]) (rest := []) dX2_make_16 (mt_X2_makeSigned hp kd q 0) rfl kl_X2_9 ks_X2_makeSigned ki_X2 kc_X2_makeSigned kd_X2_makeSigned rfl (by decide) (by decide) (Nat.le_of_ble_eq_true rfl) (fun v hp' hv _ _ => ?_) (fun E hp' h _ _ => h.elim)
      obtain ⟨rfl, rfl⟩ := hv
      show qq_Go _ hp 0 0 19 [(0, .int kd), (1, .int q)] [.int (f_X2_makeSigned kd q 0)] _ _
      refine qq_iret dX2_make_19 rfl rfl ⟨?_, rfl⟩
      rw [f_X2_make, if_neg zc1, if_pos zc2]
    · refine qq_iconst (v := 1) dX2_make_11 (by decide) ?_
      refine qq_goto (tgt := 16) dX2_make_12 (by decide) ?_
      refine qq_callS (bc := 0) (bs := 0) (mc := 0) (ms := 0) (as := [.int kd, .int q, .int 1]) (rest := []) dX2_make_16 (mt_X2_makeSigned hp kd q 1) rfl kl_X2_9 ks_X2_makeSigned ki_X2 kc_X2_makeSigned kd_X2_makeSigned rfl (by decide) (by decide) (Nat.le_of_ble_eq_true rfl) (fun v hp' hv _ _ => ?_) (fun E hp' h _ _ => h.elim)
      obtain ⟨rfl, rfl⟩ := hv
      show qq_Go _ hp 0 0 19 [(0, .int kd), (1, .int q)] [.int (f_X2_makeSigned kd q 1)] _ _
      refine qq_iret dX2_make_19 rfl rfl ⟨?_, rfl⟩
      rw [f_X2_make, if_neg zc1, if_neg zc2]
def f_X2_quarters (q : Int32) : Int32 := f_X2_make 0 q
set_option maxRecDepth 4000 in
theorem mt_X2_quarters (hp : qq_H) (q : Int32) : qq_Mt mX2_quarters [.int q] hp 0 0 (fun v hp' => v = some (.int (f_X2_quarters q)) ∧ hp = hp') (fun _ _ => False) := by
  refine qq_met pn_X2 (Nat.le_of_ble_eq_true rfl) (Nat.le_of_ble_eq_true rfl) kc_X2_quarters ?_
  show qq_Go _ hp 0 0 0 [(0, .int q)] [] _ _
  refine qq_iconst (v := 0) dX2_quarters_0 (by decide) ?_
  refine qq_iload_n dX2_quarters_1 rfl 0 rfl ?_
  refine qq_callS (bc := 0) (bs := 0) (mc := 0) (ms := 0) (as := [.int 0, .int q]) (rest := []) dX2_quarters_2 (mt_X2_make hp 0 q) rfl kl_X2_13 ks_X2_make ki_X2 kc_X2_make kd_X2_make rfl (by decide) (by decide) (Nat.le_of_ble_eq_true rfl) (fun v hp' hv _ _ => ?_) (fun E hp' h _ _ => h.elim)
  obtain ⟨rfl, rfl⟩ := hv
  show qq_Go _ hp 0 0 5 [(0, .int q)] [.int (f_X2_make 0 q)] _ _
  refine qq_iret dX2_quarters_5 rfl rfl ⟨?_, rfl⟩
  rfl
def f_X2_nought (u : Int32) : Int32 := f_X2_makeSigned 0 0 u
set_option maxRecDepth 4000 in
theorem mt_X2_nought (hp : qq_H) (u : Int32) : qq_Mt mX2_nought [.int u] hp 0 0 (fun v hp' => v = some (.int (f_X2_nought u)) ∧ hp = hp') (fun _ _ => False) := by
  refine qq_met pn_X2 (Nat.le_of_ble_eq_true rfl) (Nat.le_of_ble_eq_true rfl) kc_X2_nought ?_
  show qq_Go _ hp 0 0 0 [(0, .int u)] [] _ _
  refine qq_iconst (v := 0) dX2_nought_0 (by decide) ?_
  refine qq_iconst (v := 0) dX2_nought_1 (by decide) ?_
  refine qq_iload_n dX2_nought_2 rfl 0 rfl ?_
  refine qq_callS (bc := 0) (bs := 0) (mc := 0) (ms := 0) (as := [.int 0, .int 0, .int u]) (rest := []) dX2_nought_3 (mt_X2_makeSigned hp 0 0 u) rfl kl_X2_9 ks_X2_makeSigned ki_X2 kc_X2_makeSigned kd_X2_makeSigned rfl (by decide) (by decide) (Nat.le_of_ble_eq_true rfl) (fun v hp' hv _ _ => ?_) (fun E hp' h _ _ => h.elim)
  obtain ⟨rfl, rfl⟩ := hv
  show qq_Go _ hp 0 0 6 [(0, .int u)] [.int (f_X2_makeSigned 0 0 u)] _ _
  refine qq_iret dX2_nought_6 rfl rfl ⟨?_, rfl⟩
  rfl
def f_X2_withoutEnd (u : Int32) : Int32 := if u = 0 then f_X2_makeSigned 1 1000 u else f_X2_makeSigned 1 (-1000) u
set_option maxRecDepth 4000 in
theorem mt_X2_withoutEnd (hp : qq_H) (u : Int32) : qq_Mt mX2_withoutEnd [.int u] hp 0 0 (fun v hp' => v = some (.int (f_X2_withoutEnd u)) ∧ hp = hp') (fun _ _ => False) := by
  refine qq_met pn_X2 (Nat.le_of_ble_eq_true rfl) (Nat.le_of_ble_eq_true rfl) kc_X2_withoutEnd ?_
  show qq_Go _ hp 0 0 0 [(0, .int u)] [] _ _
  refine qq_iconst (v := 1) dX2_withoutEnd_0 (by decide) ?_
  refine qq_iload_n dX2_withoutEnd_1 rfl 0 rfl ?_
  refine qq_if_eq (tgt := 11) dX2_withoutEnd_2 (by decide) (fun zc1 => ?_) (fun zc1 => ?_)
  · refine qq_sipush (v := 1000) dX2_withoutEnd_11 (by decide) ?_
    refine qq_iload_n dX2_withoutEnd_14 rfl 0 rfl ?_
    refine qq_callS (bc := 0) (bs := 0) (mc := 0) (ms := 0) (as := [.int 1, .int 1000, .int u]) (rest := []) dX2_withoutEnd_15 (mt_X2_makeSigned hp 1 1000 u) rfl kl_X2_9 ks_X2_makeSigned ki_X2 kc_X2_makeSigned kd_X2_makeSigned rfl (by decide) (by decide) (Nat.le_of_ble_eq_true rfl) (fun v hp' hv _ _ => ?_) (fun E hp' h _ _ => h.elim)
    obtain ⟨rfl, rfl⟩ := hv
    show qq_Go _ hp 0 0 18 [(0, .int u)] [.int (f_X2_makeSigned 1 1000 u)] _ _
    refine qq_iret dX2_withoutEnd_18 rfl rfl ⟨?_, rfl⟩
    rw [f_X2_withoutEnd, if_pos zc1]
  · refine qq_sipush (v := (-1000)) dX2_withoutEnd_5 (by decide) ?_
    refine qq_goto (tgt := 14) dX2_withoutEnd_8 (by decide) ?_
    refine qq_iload_n dX2_withoutEnd_14 rfl 0 rfl ?_
    refine qq_callS (bc := 0) (bs := 0) (mc := 0) (ms := 0) (as := [.int 1, .int (-1000), .int u]) (rest := []) dX2_withoutEnd_15 (mt_X2_makeSigned hp 1 (-1000) u) rfl kl_X2_9 ks_X2_makeSigned ki_X2 kc_X2_makeSigned kd_X2_makeSigned rfl (by decide) (by decide) (Nat.le_of_ble_eq_true rfl) (fun v hp' hv _ _ => ?_) (fun E hp' h _ _ => h.elim)
    obtain ⟨rfl, rfl⟩ := hv
    show qq_Go _ hp 0 0 18 [(0, .int u)] [.int (f_X2_makeSigned 1 (-1000) u)] _ _
    refine qq_iret dX2_withoutEnd_18 rfl rfl ⟨?_, rfl⟩
    rw [f_X2_withoutEnd, if_neg zc1]
def f_X2_isNought (n : Int32) : Int32 := if (f_X2_kindOf n) = 0 then if (f_X2_qOf n) = 0 then 1 else 0 else 0
theorem bz_X2_isNought (n : Int32) : f_X2_isNought n = 0 ∨ f_X2_isNought n = 1 := by
  unfold f_X2_isNought
  exact (qq_i01 (qq_i01 (Or.inr rfl) (Or.inl rfl)) (Or.inl rfl))
set_option maxRecDepth 4000 in
theorem mt_X2_isNought (hp : qq_H) (n : Int32) : qq_Mt mX2_isNought [.int n] hp 0 0 (fun v hp' => v = some (.int (f_X2_isNought n)) ∧ hp = hp') (fun _ _ => False) := by
  refine qq_met pn_X2 (Nat.le_of_ble_eq_true rfl) (Nat.le_of_ble_eq_true rfl) kc_X2_isNought ?_
  show qq_Go _ hp 0 0 0 [(0, .int n)] [] _ _
  refine qq_iload_n dX2_isNought_0 rfl 0 rfl ?_
  refine qq_callS (bc := 0) (bs := 0) (mc := 0) (ms := 0) (as := [.int n]) (rest := []) dX2_isNought_1 (mt_X2_kindOf hp n) rfl kl_X2_17 ks_X2_kindOf ki_X2 kc_X2_kindOf kd_X2_kindOf rfl (by decide) (by decide) (Nat.le_of_ble_eq_true rfl) (fun v hp' hv _ _ => ?_) (fun E hp' h _ _ => h.elim)
  obtain ⟨rfl, rfl⟩ := hv
  show qq_Go _ hp 0 0 4 [(0, .int n)] [.int (f_X2_kindOf n)] _ _
  refine qq_if_ne (tgt := 18) dX2_isNought_4 (by decide) (fun zc1 => ?_) (fun zc1 => ?_)
  · refine qq_iconst (v := 0) dX2_isNought_18 (by decide) ?_
    refine qq_iret dX2_isNought_19 rfl rfl ⟨?_, rfl⟩
    rw [f_X2_isNought, if_neg zc1]
  · refine qq_iload_n dX2_isNought_7 rfl 0 rfl ?_
    refine qq_callS (bc := 0) (bs := 0) (mc := 0) (ms := 0) (as := [.int n]) (rest := []) dX2_isNought_8 (mt_X2_qOf hp n) rfl kl_X2_21 ks_X2_qOf ki_X2 kc_X2_qOf kd_X2_qOf rfl (by decide) (by decide) (Nat.le_of_ble_eq_true rfl) (fun v hp' hv _ _ => ?_) (fun E hp' h _ _ => h.elim)
    obtain ⟨rfl, rfl⟩ := hv
    show qq_Go _ hp 0 0 11 [(0, .int n)] [.int (f_X2_qOf n)] _ _
    refine qq_if_ne (tgt := 18) dX2_isNought_11 (by decide) (fun zc2 => ?_) (fun zc2 => ?_)
    · refine qq_iconst (v := 0) dX2_isNought_18 (by decide) ?_
      refine qq_iret dX2_isNought_19 rfl rfl ⟨?_, rfl⟩
      rw [f_X2_isNought, if_pos zc1, if_neg zc2]
    · refine qq_iconst (v := 1) dX2_isNought_14 (by decide) ?_
      refine qq_goto (tgt := 19) dX2_isNought_15 (by decide) ?_
      refine qq_iret dX2_isNought_19 rfl rfl ⟨?_, rfl⟩
      rw [f_X2_isNought, if_pos zc1, if_pos zc2]
def f_X2_canBeQuarter (q : Int32) : Int32 := if q < (-160) then 0 else if 160 < q then 0 else 1
theorem bz_X2_canBeQuarter (q : Int32) : f_X2_canBeQuarter q = 0 ∨ f_X2_canBeQuarter q = 1 := by
  unfold f_X2_canBeQuarter
  exact (qq_i01 (Or.inl rfl) (qq_i01 (Or.inl rfl) (Or.inr rfl)))
set_option maxRecDepth 4000 in
theorem mt_X2_canBeQuarter (hp : qq_H) (q : Int32) : qq_Mt mX2_canBeQuarter [.int q] hp 0 0 (fun v hp' => v = some (.int (f_X2_canBeQuarter q)) ∧ hp = hp') (fun _ _ => False) := by
  refine qq_met pn_X2 (Nat.le_of_ble_eq_true rfl) (Nat.le_of_ble_eq_true rfl) kc_X2_canBeQuarter ?_
  show qq_Go _ hp 0 0 0 [(0, .int q)] [] _ _
  refine qq_iload_n dX2_canBeQuarter_0 rfl 0 rfl ?_
  refine qq_sipush (v := (-160)) dX2_canBeQuarter_1 (by decide) ?_
  refine qq_icmp_lt (tgt := 18) dX2_canBeQuarter_4 (by decide) (fun zc1 => ?_) (fun zc1 => ?_)
  · refine qq_iconst (v := 0) dX2_canBeQuarter_18 (by decide) ?_
    refine qq_iret dX2_canBeQuarter_19 rfl rfl ⟨?_, rfl⟩
    rw [f_X2_canBeQuarter, if_pos zc1]
  · refine qq_iload_n dX2_canBeQuarter_7 rfl 0 rfl ?_
    refine qq_sipush (v := 160) dX2_canBeQuarter_8 (by decide) ?_
    refine qq_icmp_gt (tgt := 18) dX2_canBeQuarter_11 (by decide) (fun zc2 => ?_) (fun zc2 => ?_)
    · refine qq_iconst (v := 0) dX2_canBeQuarter_18 (by decide) ?_
      refine qq_iret dX2_canBeQuarter_19 rfl rfl ⟨?_, rfl⟩
      rw [f_X2_canBeQuarter, if_neg zc1, if_pos zc2]
    · refine qq_iconst (v := 1) dX2_canBeQuarter_14 (by decide) ?_
      refine qq_goto (tgt := 19) dX2_canBeQuarter_15 (by decide) ?_
      refine qq_iret dX2_canBeQuarter_19 rfl rfl ⟨?_, rfl⟩
      rw [f_X2_canBeQuarter, if_neg zc1, if_neg zc2]
def f_X2_turned (n : Int32) : Int32 := if (f_X2_isUnder n) = 0 then f_X2_makeSigned (f_X2_kindOf n) (-(f_X2_qOf n)) 1 else f_X2_makeSigned (f_X2_kindOf n) (-(f_X2_qOf n)) 0
set_option maxRecDepth 4000 in
theorem mt_X2_turned (hp : qq_H) (n : Int32) : qq_Mt mX2_turned [.int n] hp 0 0 (fun v hp' => v = some (.int (f_X2_turned n)) ∧ hp = hp') (fun _ _ => False) := by
  refine qq_met pn_X2 (Nat.le_of_ble_eq_true rfl) (Nat.le_of_ble_eq_true rfl) kc_X2_turned ?_
  show qq_Go _ hp 0 0 0 [(0, .int n)] [] _ _
  refine qq_iload_n dX2_turned_0 rfl 0 rfl ?_
  refine qq_callS (bc := 0) (bs := 0) (mc := 0) (ms := 0) (as := [.int n]) (rest := []) dX2_turned_1 (mt_X2_kindOf hp n) rfl kl_X2_17 ks_X2_kindOf ki_X2 kc_X2_kindOf kd_X2_kindOf rfl (by decide) (by decide) (Nat.le_of_ble_eq_true rfl) (fun v hp' hv _ _ => ?_) (fun E hp' h _ _ => h.elim)
  obtain ⟨rfl, rfl⟩ := hv
  show qq_Go _ hp 0 0 4 [(0, .int n)] [.int (f_X2_kindOf n)] _ _
  refine qq_iload_n dX2_turned_4 rfl 0 rfl ?_
  refine qq_callS (bc := 0) (bs := 0) (mc := 0) (ms := 0) (as := [.int n]) (rest := [.int (f_X2_kindOf n)]) dX2_turned_5 (mt_X2_qOf hp n) rfl kl_X2_21 ks_X2_qOf ki_X2 kc_X2_qOf kd_X2_qOf rfl (by decide) (by decide) (Nat.le_of_ble_eq_true rfl) (fun v hp' hv _ _ => ?_) (fun E hp' h _ _ => h.elim)
  obtain ⟨rfl, rfl⟩ := hv
  show qq_Go _ hp 0 0 8 [(0, .int n)] [.int (f_X2_qOf n), .int (f_X2_kindOf n)] _ _
  refine qq_ineg dX2_turned_8 ?_
  refine qq_iload_n dX2_turned_9 rfl 0 rfl ?_
  refine qq_callS (bc := 0) (bs := 0) (mc := 0) (ms := 0) (as := [.int n]) (rest := [.int (-(f_X2_qOf n)), .int (f_X2_kindOf n)]) dX2_turned_10 (mt_X2_isUnder hp n) rfl kl_X2_24 ks_X2_isUnder ki_X2 kc_X2_isUnder kd_X2_isUnder rfl (by decide) (by decide) (Nat.le_of_ble_eq_true rfl) (fun v hp' hv _ _ => ?_) (fun E hp' h _ _ => h.elim)
  obtain ⟨rfl, rfl⟩ := hv
  show qq_Go _ hp 0 0 13 [(0, .int n)] [.int (f_X2_isUnder n), .int (-(f_X2_qOf n)), .int (f_X2_kindOf n)] _ _
  refine qq_if_ne (tgt := 20) dX2_turned_13 (by decide) (fun zc1 => ?_) (fun zc1 => ?_)
  · refine qq_iconst (v := 0) dX2_turned_20 (by decide) ?_
    refine qq_callS (bc := 0) (bs := 0) (mc := 0) (ms := 0) (as := [.int (f_X2_kindOf n), .int (-(f_X2_qOf n)), .int 0]) (rest := []) dX2_turned_21 (mt_X2_makeSigned hp (f_X2_kindOf n) (-(f_X2_qOf n)) 0) rfl kl_X2_9 ks_X2_makeSigned ki_X2 kc_X2_makeSigned kd_X2_makeSigned rfl (by decide) (by decide) (Nat.le_of_ble_eq_true rfl) (fun v hp' hv _ _ => ?_) (fun E hp' h _ _ => h.elim)
    obtain ⟨rfl, rfl⟩ := hv
    show qq_Go _ hp 0 0 24 [(0, .int n)] [.int (f_X2_makeSigned (f_X2_kindOf n) (-(f_X2_qOf n)) 0)] _ _
    refine qq_iret dX2_turned_24 rfl rfl ⟨?_, rfl⟩
    rw [f_X2_turned, if_neg zc1]
  · refine qq_iconst (v := 1) dX2_turned_16 (by decide) ?_
    refine qq_goto (tgt := 21) dX2_turned_17 (by decide) ?_
    refine qq_callS (bc := 0) (bs := 0) (mc := 0) (ms := 0) (as := [.int (f_X2_kindOf n), .int (-(f_X2_qOf n)), .int 1]) (rest := []) dX2_turned_21 (mt_X2_makeSigned hp (f_X2_kindOf n) (-(f_X2_qOf n)) 1) rfl kl_X2_9 ks_X2_makeSigned ki_X2 kc_X2_makeSigned kd_X2_makeSigned rfl (by decide) (by decide) (Nat.le_of_ble_eq_true rfl) (fun v hp' hv _ _ => ?_) (fun E hp' h _ _ => h.elim)
    obtain ⟨rfl, rfl⟩ := hv
    show qq_Go _ hp 0 0 24 [(0, .int n)] [.int (f_X2_makeSigned (f_X2_kindOf n) (-(f_X2_qOf n)) 1)] _ _
    refine qq_iret dX2_turned_24 rfl rfl ⟨?_, rfl⟩
    rw [f_X2_turned, if_pos zc1]
def f_X2_hasWhole (n : Int32) : Int32 := if (f_X2_kindOf n) = 1 then 0 else if (f_X2_kindOf n) = 5 then 0 else if (f_X2_kindOf n) = 6 then 0 else 1
theorem bz_X2_hasWhole (n : Int32) : f_X2_hasWhole n = 0 ∨ f_X2_hasWhole n = 1 := by
  unfold f_X2_hasWhole
  exact (qq_i01 (Or.inl rfl) (qq_i01 (Or.inl rfl) (qq_i01 (Or.inl rfl) (Or.inr rfl))))
set_option maxRecDepth 4000 in
theorem mt_X2_hasWhole (hp : qq_H) (n : Int32) : qq_Mt mX2_hasWhole [.int n] hp 0 0 (fun v hp' => v = some (.int (f_X2_hasWhole n)) ∧ hp = hp') (fun _ _ => False) := by
  refine qq_met pn_X2 (Nat.le_of_ble_eq_true rfl) (Nat.le_of_ble_eq_true rfl) kc_X2_hasWhole ?_
  show qq_Go _ hp 0 0 0 [(0, .int n)] [] _ _
  refine qq_iload_n dX2_hasWhole_0 rfl 0 rfl ?_
  refine qq_callS (bc := 0) (bs := 0) (mc := 0) (ms := 0) (as := [.int n]) (rest := []) dX2_hasWhole_1 (mt_X2_kindOf hp n) rfl kl_X2_17 ks_X2_kindOf ki_X2 kc_X2_kindOf kd_X2_kindOf rfl (by decide) (by decide) (Nat.le_of_ble_eq_true rfl) (fun v hp' hv _ _ => ?_) (fun E hp' h _ _ => h.elim)
  obtain ⟨rfl, rfl⟩ := hv
  show qq_Go _ hp 0 0 4 [(0, .int n)] [.int (f_X2_kindOf n)] _ _
  refine qq_istore_n (loc' := [(0, .int n), (1, .int (f_X2_kindOf n))]) dX2_hasWhole_4 rfl [1, 0] (Nat.le_of_ble_eq_true rfl) rfl ?_
  refine qq_iload_n dX2_hasWhole_5 rfl 1 rfl ?_
  refine qq_iconst (v := 1) dX2_hasWhole_6 (by decide) ?_
  refine qq_icmp_eq (tgt := 25) dX2_hasWhole_7 (by decide) (fun zc1 => ?_) (fun zc1 => ?_)
  · refine qq_iconst (v := 0) dX2_hasWhole_25 (by decide) ?_
    refine qq_iret dX2_hasWhole_26 rfl rfl ⟨?_, rfl⟩
    rw [f_X2_hasWhole, if_pos zc1]
  · refine qq_iload_n dX2_hasWhole_10 rfl 1 rfl ?_
    refine qq_iconst (v := 5) dX2_hasWhole_11 (by decide) ?_
    refine qq_icmp_eq (tgt := 25) dX2_hasWhole_12 (by decide) (fun zc2 => ?_) (fun zc2 => ?_)
    · refine qq_iconst (v := 0) dX2_hasWhole_25 (by decide) ?_
      refine qq_iret dX2_hasWhole_26 rfl rfl ⟨?_, rfl⟩
      rw [f_X2_hasWhole, if_neg zc1, if_pos zc2]
    · refine qq_iload_n dX2_hasWhole_15 rfl 1 rfl ?_
      refine qq_bipush (v := 6) dX2_hasWhole_16 (by decide) ?_
      refine qq_icmp_eq (tgt := 25) dX2_hasWhole_18 (by decide) (fun zc3 => ?_) (fun zc3 => ?_)
      · refine qq_iconst (v := 0) dX2_hasWhole_25 (by decide) ?_
        refine qq_iret dX2_hasWhole_26 rfl rfl ⟨?_, rfl⟩
        rw [f_X2_hasWhole, if_neg zc1, if_neg zc2, if_pos zc3]
      · refine qq_iconst (v := 1) dX2_hasWhole_21 (by decide) ?_
        refine qq_goto (tgt := 26) dX2_hasWhole_22 (by decide) ?_
        refine qq_iret dX2_hasWhole_26 rfl rfl ⟨?_, rfl⟩
        rw [f_X2_hasWhole, if_neg zc1, if_neg zc2, if_neg zc3]
def f_X2_hasHeight (n : Int32) : Int32 := if (f_X2_hasWhole n) = 0 then 0 else if (f_X2_isNought n) = 0 then 1 else 0
theorem bz_X2_hasHeight (n : Int32) : f_X2_hasHeight n = 0 ∨ f_X2_hasHeight n = 1 := by
  unfold f_X2_hasHeight
  exact (qq_i01 (Or.inl rfl) (qq_i01 (Or.inr rfl) (Or.inl rfl)))
set_option maxRecDepth 4000 in
theorem mt_X2_hasHeight (hp : qq_H) (n : Int32) : qq_Mt mX2_hasHeight [.int n] hp 0 0 (fun v hp' => v = some (.int (f_X2_hasHeight n)) ∧ hp = hp') (fun _ _ => False) := by
  refine qq_met pn_X2 (Nat.le_of_ble_eq_true rfl) (Nat.le_of_ble_eq_true rfl) kc_X2_hasHeight ?_
  show qq_Go _ hp 0 0 0 [(0, .int n)] [] _ _
  refine qq_iload_n dX2_hasHeight_0 rfl 0 rfl ?_
  refine qq_callS (bc := 0) (bs := 0) (mc := 0) (ms := 0) (as := [.int n]) (rest := []) dX2_hasHeight_1 (mt_X2_hasWhole hp n) rfl kl_X2_28 ks_X2_hasWhole ki_X2 kc_X2_hasWhole kd_X2_hasWhole rfl (by decide) (by decide) (Nat.le_of_ble_eq_true rfl) (fun v hp' hv _ _ => ?_) (fun E hp' h _ _ => h.elim)
  obtain ⟨rfl, rfl⟩ := hv
  show qq_Go _ hp 0 0 4 [(0, .int n)] [.int (f_X2_hasWhole n)] _ _
  refine qq_if_eq (tgt := 18) dX2_hasHeight_4 (by decide) (fun zc1 => ?_) (fun zc1 => ?_)
  · refine qq_iconst (v := 0) dX2_hasHeight_18 (by decide) ?_
    refine qq_iret dX2_hasHeight_19 rfl rfl ⟨?_, rfl⟩
    rw [f_X2_hasHeight, if_pos zc1]
  · refine qq_iload_n dX2_hasHeight_7 rfl 0 rfl ?_
    refine qq_callS (bc := 0) (bs := 0) (mc := 0) (ms := 0) (as := [.int n]) (rest := []) dX2_hasHeight_8 (mt_X2_isNought hp n) rfl kl_X2_31 ks_X2_isNought ki_X2 kc_X2_isNought kd_X2_isNought rfl (by decide) (by decide) (Nat.le_of_ble_eq_true rfl) (fun v hp' hv _ _ => ?_) (fun E hp' h _ _ => h.elim)
    obtain ⟨rfl, rfl⟩ := hv
    show qq_Go _ hp 0 0 11 [(0, .int n)] [.int (f_X2_isNought n)] _ _
    refine qq_if_ne (tgt := 18) dX2_hasHeight_11 (by decide) (fun zc2 => ?_) (fun zc2 => ?_)
    · refine qq_iconst (v := 0) dX2_hasHeight_18 (by decide) ?_
      refine qq_iret dX2_hasHeight_19 rfl rfl ⟨?_, rfl⟩
      rw [f_X2_hasHeight, if_neg zc1, if_neg zc2]
    · refine qq_iconst (v := 1) dX2_hasHeight_14 (by decide) ?_
      refine qq_goto (tgt := 19) dX2_hasHeight_15 (by decide) ?_
      refine qq_iret dX2_hasHeight_19 rfl rfl ⟨?_, rfl⟩
      rw [f_X2_hasHeight, if_neg zc1, if_pos zc2]
def f_X2_hasToldDigits (n : Int32) : Int32 := if (f_X2_kindOf n) = 0 then 1 else if (f_X2_kindOf n) = 1 then 1 else 0
theorem bz_X2_hasToldDigits (n : Int32) : f_X2_hasToldDigits n = 0 ∨ f_X2_hasToldDigits n = 1 := by
  unfold f_X2_hasToldDigits
  exact (qq_i01 (Or.inr rfl) (qq_i01 (Or.inr rfl) (Or.inl rfl)))
set_option maxRecDepth 4000 in
theorem mt_X2_hasToldDigits (hp : qq_H) (n : Int32) : qq_Mt mX2_hasToldDigits [.int n] hp 0 0 (fun v hp' => v = some (.int (f_X2_hasToldDigits n)) ∧ hp = hp') (fun _ _ => False) := by
  refine qq_met pn_X2 (Nat.le_of_ble_eq_true rfl) (Nat.le_of_ble_eq_true rfl) kc_X2_hasToldDigits ?_
  show qq_Go _ hp 0 0 0 [(0, .int n)] [] _ _
  refine qq_iload_n dX2_hasToldDigits_0 rfl 0 rfl ?_
  refine qq_callS (bc := 0) (bs := 0) (mc := 0) (ms := 0) (as := [.int n]) (rest := []) dX2_hasToldDigits_1 (mt_X2_kindOf hp n) rfl kl_X2_17 ks_X2_kindOf ki_X2 kc_X2_kindOf kd_X2_kindOf rfl (by decide) (by decide) (Nat.le_of_ble_eq_true rfl) (fun v hp' hv _ _ => ?_) (fun E hp' h _ _ => h.elim)
  obtain ⟨rfl, rfl⟩ := hv
  show qq_Go _ hp 0 0 4 [(0, .int n)] [.int (f_X2_kindOf n)] _ _
  refine qq_if_eq (tgt := 15) dX2_hasToldDigits_4 (by decide) (fun zc1 => ?_) (fun zc1 => ?_)
  · refine qq_iconst (v := 1) dX2_hasToldDigits_15 (by decide) ?_
    refine qq_goto (tgt := 20) dX2_hasToldDigits_16 (by decide) ?_
    refine qq_iret dX2_hasToldDigits_20 rfl rfl ⟨?_, rfl⟩
    rw [f_X2_hasToldDigits, if_pos zc1]
  · refine qq_iload_n dX2_hasToldDigits_7 rfl 0 rfl ?_
    refine qq_callS (bc := 0) (bs := 0) (mc := 0) (ms := 0) (as := [.int n]) (rest := []) dX2_hasToldDigits_8 (mt_X2_kindOf hp n) rfl kl_X2_17 ks_X2_kindOf ki_X2 kc_X2_kindOf kd_X2_kindOf rfl (by decide) (by decide) (Nat.le_of_ble_eq_true rfl) (fun v hp' hv _ _ => ?_) (fun E hp' h _ _ => h.elim)
    obtain ⟨rfl, rfl⟩ := hv
    show qq_Go _ hp 0 0 11 [(0, .int n)] [.int (f_X2_kindOf n)] _ _
    refine qq_iconst (v := 1) dX2_hasToldDigits_11 (by decide) ?_
    refine qq_icmp_ne (tgt := 19) dX2_hasToldDigits_12 (by decide) (fun zc2 => ?_) (fun zc2 => ?_)
    · refine qq_iconst (v := 0) dX2_hasToldDigits_19 (by decide) ?_
      refine qq_iret dX2_hasToldDigits_20 rfl rfl ⟨?_, rfl⟩
      rw [f_X2_hasToldDigits, if_neg zc1, if_neg zc2]
    · refine qq_iconst (v := 1) dX2_hasToldDigits_15 (by decide) ?_
      refine qq_goto (tgt := 20) dX2_hasToldDigits_16 (by decide) ?_
      refine qq_iret dX2_hasToldDigits_20 rfl rfl ⟨?_, rfl⟩
      rw [f_X2_hasToldDigits, if_neg zc1, if_pos zc2]
def f_X2_hasQuarterAsTrue (n : Int32) : Int32 := if (f_X2_kindOf n) = 0 then 1 else if (f_X2_kindOf n) = 5 then 1 else if (f_X2_kindOf n) = 6 then 1 else 0
theorem bz_X2_hasQuarterAsTrue (n : Int32) : f_X2_hasQuarterAsTrue n = 0 ∨ f_X2_hasQuarterAsTrue n = 1 := by
  unfold f_X2_hasQuarterAsTrue
  exact (qq_i01 (Or.inr rfl) (qq_i01 (Or.inr rfl) (qq_i01 (Or.inr rfl) (Or.inl rfl))))
set_option maxRecDepth 4000 in
theorem mt_X2_hasQuarterAsTrue (hp : qq_H) (n : Int32) : qq_Mt mX2_hasQuarterAsTrue [.int n] hp 0 0 (fun v hp' => v = some (.int (f_X2_hasQuarterAsTrue n)) ∧ hp = hp') (fun _ _ => False) := by
  refine qq_met pn_X2 (Nat.le_of_ble_eq_true rfl) (Nat.le_of_ble_eq_true rfl) kc_X2_hasQuarterAsTrue ?_
  show qq_Go _ hp 0 0 0 [(0, .int n)] [] _ _
  refine qq_iload_n dX2_hasQuarterAsTrue_0 rfl 0 rfl ?_
  refine qq_callS (bc := 0) (bs := 0) (mc := 0) (ms := 0) (as := [.int n]) (rest := []) dX2_hasQuarterAsTrue_1 (mt_X2_kindOf hp n) rfl kl_X2_17 ks_X2_kindOf ki_X2 kc_X2_kindOf kd_X2_kindOf rfl (by decide) (by decide) (Nat.le_of_ble_eq_true rfl) (fun v hp' hv _ _ => ?_) (fun E hp' h _ _ => h.elim)
  obtain ⟨rfl, rfl⟩ := hv
  show qq_Go _ hp 0 0 4 [(0, .int n)] [.int (f_X2_kindOf n)] _ _
  refine qq_istore_n (loc' := [(0, .int n), (1, .int (f_X2_kindOf n))]) dX2_hasQuarterAsTrue_4 rfl [1, 0] (Nat.le_of_ble_eq_true rfl) rfl ?_
  refine qq_iload_n dX2_hasQuarterAsTrue_5 rfl 1 rfl ?_
  refine qq_if_eq (tgt := 20) dX2_hasQuarterAsTrue_6 (by decide) (fun zc1 => ?_) (fun zc1 => ?_)
  · refine qq_iconst (v := 1) dX2_hasQuarterAsTrue_20 (by decide) ?_
    refine qq_goto (tgt := 25) dX2_hasQuarterAsTrue_21 (by decide) ?_
    refine qq_iret dX2_hasQuarterAsTrue_25 rfl rfl ⟨?_, rfl⟩
    rw [f_X2_hasQuarterAsTrue, if_pos zc1]
  · refine qq_iload_n dX2_hasQuarterAsTrue_9 rfl 1 rfl ?_
    refine qq_iconst (v := 5) dX2_hasQuarterAsTrue_10 (by decide) ?_
    refine qq_icmp_eq (tgt := 20) dX2_hasQuarterAsTrue_11 (by decide) (fun zc2 => ?_) (fun zc2 => ?_)
    · refine qq_iconst (v := 1) dX2_hasQuarterAsTrue_20 (by decide) ?_
      refine qq_goto (tgt := 25) dX2_hasQuarterAsTrue_21 (by decide) ?_
      refine qq_iret dX2_hasQuarterAsTrue_25 rfl rfl ⟨?_, rfl⟩
      rw [f_X2_hasQuarterAsTrue, if_neg zc1, if_pos zc2]
    · refine qq_iload_n dX2_hasQuarterAsTrue_14 rfl 1 rfl ?_
      refine qq_bipush (v := 6) dX2_hasQuarterAsTrue_15 (by decide) ?_
      refine qq_icmp_ne (tgt := 24) dX2_hasQuarterAsTrue_17 (by decide) (fun zc3 => ?_) (fun zc3 => ?_)
      · refine qq_iconst (v := 0) dX2_hasQuarterAsTrue_24 (by decide) ?_
        refine qq_iret dX2_hasQuarterAsTrue_25 rfl rfl ⟨?_, rfl⟩
        rw [f_X2_hasQuarterAsTrue, if_neg zc1, if_neg zc2, if_neg zc3]
      · refine qq_iconst (v := 1) dX2_hasQuarterAsTrue_20 (by decide) ?_
        refine qq_goto (tgt := 25) dX2_hasQuarterAsTrue_21 (by decide) ?_
        refine qq_iret dX2_hasQuarterAsTrue_25 rfl rfl ⟨?_, rfl⟩
        rw [f_X2_hasQuarterAsTrue, if_neg zc1, if_neg zc2, if_pos zc3]
def f_X2_areNear (a : Int32) (b : Int32) : Int32 := if (f_X2_kindOf a) = (f_X2_kindOf b) then 0 else if (f_X2_qOf a) = (f_X2_qOf b) then if (f_X2_hasQuarterAsTrue a) = 0 then 0 else if (f_X2_hasQuarterAsTrue b) = 0 then 0 else 1 else 0
theorem bz_X2_areNear (a : Int32) (b : Int32) : f_X2_areNear a b = 0 ∨ f_X2_areNear a b = 1 := by
  unfold f_X2_areNear
  exact (qq_i01 (Or.inl rfl) (qq_i01 (qq_i01 (Or.inl rfl) (qq_i01 (Or.inl rfl) (Or.inr rfl))) (Or.inl rfl)))
set_option maxRecDepth 4000 in
theorem mt_X2_areNear (hp : qq_H) (a : Int32) (b : Int32) : qq_Mt mX2_areNear [.int a, .int b] hp 0 0 (fun v hp' => v = some (.int (f_X2_areNear a b)) ∧ hp = hp') (fun _ _ => False) := by
  refine qq_met pn_X2 (Nat.le_of_ble_eq_true rfl) (Nat.le_of_ble_eq_true rfl) kc_X2_areNear ?_
  show qq_Go _ hp 0 0 0 [(0, .int a), (1, .int b)] [] _ _
  refine qq_iload_n dX2_areNear_0 rfl 0 rfl ?_
  refine qq_callS (bc := 0) (bs := 0) (mc := 0) (ms := 0) (as := [.int a]) (rest := []) dX2_areNear_1 (mt_X2_kindOf hp a) rfl kl_X2_17 ks_X2_kindOf ki_X2 kc_X2_kindOf kd_X2_kindOf rfl (by decide) (by decide) (Nat.le_of_ble_eq_true rfl) (fun v hp' hv _ _ => ?_) (fun E hp' h _ _ => h.elim)
  obtain ⟨rfl, rfl⟩ := hv
  show qq_Go _ hp 0 0 4 [(0, .int a), (1, .int b)] [.int (f_X2_kindOf a)] _ _
  refine qq_iload_n dX2_areNear_4 rfl 1 rfl ?_
  refine qq_callS (bc := 0) (bs := 0) (mc := 0) (ms := 0) (as := [.int b]) (rest := [.int (f_X2_kindOf a)]) dX2_areNear_5 (mt_X2_kindOf hp b) rfl kl_X2_17 ks_X2_kindOf ki_X2 kc_X2_kindOf kd_X2_kindOf rfl (by decide) (by decide) (Nat.le_of_ble_eq_true rfl) (fun v hp' hv _ _ => ?_) (fun E hp' h _ _ => h.elim)
  obtain ⟨rfl, rfl⟩ := hv
  show qq_Go _ hp 0 0 8 [(0, .int a), (1, .int b)] [.int (f_X2_kindOf b), .int (f_X2_kindOf a)] _ _
  refine qq_icmp_eq (tgt := 40) dX2_areNear_8 (by decide) (fun zc1 => ?_) (fun zc1 => ?_)
  · refine qq_iconst (v := 0) dX2_areNear_40 (by decide) ?_
    refine qq_iret dX2_areNear_41 rfl rfl ⟨?_, rfl⟩
    rw [f_X2_areNear, if_pos zc1]
  · refine qq_iload_n dX2_areNear_11 rfl 0 rfl ?_
    refine qq_callS (bc := 0) (bs := 0) (mc := 0) (ms := 0) (as := [.int a]) (rest := []) dX2_areNear_12 (mt_X2_qOf hp a) rfl kl_X2_21 ks_X2_qOf ki_X2 kc_X2_qOf kd_X2_qOf rfl (by decide) (by decide) (Nat.le_of_ble_eq_true rfl) (fun v hp' hv _ _ => ?_) (fun E hp' h _ _ => h.elim)
    obtain ⟨rfl, rfl⟩ := hv
    show qq_Go _ hp 0 0 15 [(0, .int a), (1, .int b)] [.int (f_X2_qOf a)] _ _
    refine qq_iload_n dX2_areNear_15 rfl 1 rfl ?_
    refine qq_callS (bc := 0) (bs := 0) (mc := 0) (ms := 0) (as := [.int b]) (rest := [.int (f_X2_qOf a)]) dX2_areNear_16 (mt_X2_qOf hp b) rfl kl_X2_21 ks_X2_qOf ki_X2 kc_X2_qOf kd_X2_qOf rfl (by decide) (by decide) (Nat.le_of_ble_eq_true rfl) (fun v hp' hv _ _ => ?_) (fun E hp' h _ _ => h.elim)
    obtain ⟨rfl, rfl⟩ := hv
    show qq_Go _ hp 0 0 19 [(0, .int a), (1, .int b)] [.int (f_X2_qOf b), .int (f_X2_qOf a)] _ _
    refine qq_icmp_ne (tgt := 40) dX2_areNear_19 (by decide) (fun zc2 => ?_) (fun zc2 => ?_)
    · refine qq_iconst (v := 0) dX2_areNear_40 (by decide) ?_
      refine qq_iret dX2_areNear_41 rfl rfl ⟨?_, rfl⟩
      rw [f_X2_areNear, if_neg zc1, if_neg zc2]
    · refine qq_iload_n dX2_areNear_22 rfl 0 rfl ?_
      refine qq_callS (bc := 0) (bs := 0) (mc := 0) (ms := 0) (as := [.int a]) (rest := []) dX2_areNear_23 (mt_X2_hasQuarterAsTrue hp a) rfl kl_X2_34 ks_X2_hasQuarterAsTrue ki_X2 kc_X2_hasQuarterAsTrue kd_X2_hasQuarterAsTrue rfl (by decide) (by decide) (Nat.le_of_ble_eq_true rfl) (fun v hp' hv _ _ => ?_) (fun E hp' h _ _ => h.elim)
      obtain ⟨rfl, rfl⟩ := hv
      show qq_Go _ hp 0 0 26 [(0, .int a), (1, .int b)] [.int (f_X2_hasQuarterAsTrue a)] _ _
      refine qq_if_eq (tgt := 40) dX2_areNear_26 (by decide) (fun zc3 => ?_) (fun zc3 => ?_)
      · refine qq_iconst (v := 0) dX2_areNear_40 (by decide) ?_
        refine qq_iret dX2_areNear_41 rfl rfl ⟨?_, rfl⟩
        rw [f_X2_areNear, if_neg zc1, if_pos zc2, if_pos zc3]
      · refine qq_iload_n dX2_areNear_29 rfl 1 rfl ?_
        refine qq_callS (bc := 0) (bs := 0) (mc := 0) (ms := 0) (as := [.int b]) (rest := []) dX2_areNear_30 (mt_X2_hasQuarterAsTrue hp b) rfl kl_X2_34 ks_X2_hasQuarterAsTrue ki_X2 kc_X2_hasQuarterAsTrue kd_X2_hasQuarterAsTrue rfl (by decide) (by decide) (Nat.le_of_ble_eq_true rfl) (fun v hp' hv _ _ => ?_) (fun E hp' h _ _ => h.elim)
        obtain ⟨rfl, rfl⟩ := hv
        show qq_Go _ hp 0 0 33 [(0, .int a), (1, .int b)] [.int (f_X2_hasQuarterAsTrue b)] _ _
        refine qq_if_eq (tgt := 40) dX2_areNear_33 (by decide) (fun zc4 => ?_) (fun zc4 => ?_)
        · refine qq_iconst (v := 0) dX2_areNear_40 (by decide) ?_
          refine qq_iret dX2_areNear_41 rfl rfl ⟨?_, rfl⟩
          rw [f_X2_areNear, if_neg zc1, if_pos zc2, if_neg zc3, if_pos zc4]
        · refine qq_iconst (v := 1) dX2_areNear_36 (by decide) ?_
          refine qq_goto (tgt := 41) dX2_areNear_37 (by decide) ?_
          refine qq_iret dX2_areNear_41 rfl rfl ⟨?_, rfl⟩
          rw [f_X2_areNear, if_neg zc1, if_pos zc2, if_neg zc3, if_neg zc4]
def f_X2_mostSteps (q : Int32) : Int32 := if q < (-12) then if q < (-16) then if q < (-20) then if q < (-24) then if q < (-28) then 124 else 53 else 10 else 6 else 5 else 2
set_option maxRecDepth 4000 in
theorem mt_X2_mostSteps (hp : qq_H) (q : Int32) : qq_Mt mX2_mostSteps [.int q] hp 0 0 (fun v hp' => v = some (.int (f_X2_mostSteps q)) ∧ hp = hp') (fun _ _ => False) := by
  refine qq_met pn_X2 (Nat.le_of_ble_eq_true rfl) (Nat.le_of_ble_eq_true rfl) kc_X2_mostSteps ?_
  show qq_Go _ hp 0 0 0 [(0, .int q)] [] _ _
  refine qq_iload_n dX2_mostSteps_0 rfl 0 rfl ?_
  refine qq_bipush (v := (-12)) dX2_mostSteps_1 (by decide) ?_
  refine qq_icmp_lt (tgt := 8) dX2_mostSteps_3 (by decide) (fun zc1 => ?_) (fun zc1 => ?_)
  · refine qq_iload_n dX2_mostSteps_8 rfl 0 rfl ?_
    refine qq_bipush (v := (-16)) dX2_mostSteps_9 (by decide) ?_
    refine qq_icmp_lt (tgt := 16) dX2_mostSteps_11 (by decide) (fun zc2 => ?_) (fun zc2 => ?_)
    · refine qq_iload_n dX2_mostSteps_16 rfl 0 rfl ?_
      refine qq_bipush (v := (-20)) dX2_mostSteps_17 (by decide) ?_
      refine qq_icmp_lt (tgt := 25) dX2_mostSteps_19 (by decide) (fun zc3 => ?_) (fun zc3 => ?_)
      · refine qq_iload_n dX2_mostSteps_25 rfl 0 rfl ?_
        refine qq_bipush (v := (-24)) dX2_mostSteps_26 (by decide) ?_
        refine qq_icmp_lt (tgt := 34) dX2_mostSteps_28 (by decide) (fun zc4 => ?_) (fun zc4 => ?_)
        · refine qq_iload_n dX2_mostSteps_34 rfl 0 rfl ?_
          refine qq_bipush (v := (-28)) dX2_mostSteps_35 (by decide) ?_
          refine qq_icmp_lt (tgt := 45) dX2_mostSteps_37 (by decide) (fun zc5 => ?_) (fun zc5 => ?_)
          · refine qq_bipush (v := 124) dX2_mostSteps_45 (by decide) ?_
            refine qq_iret dX2_mostSteps_47 rfl rfl ⟨?_, rfl⟩
            rw [f_X2_mostSteps, if_pos zc1, if_pos zc2, if_pos zc3, if_pos zc4, if_pos zc5]
          · refine qq_bipush (v := 53) dX2_mostSteps_40 (by decide) ?_
            refine qq_goto (tgt := 47) dX2_mostSteps_42 (by decide) ?_
            refine qq_iret dX2_mostSteps_47 rfl rfl ⟨?_, rfl⟩
            rw [f_X2_mostSteps, if_pos zc1, if_pos zc2, if_pos zc3, if_pos zc4, if_neg zc5]
        · refine qq_bipush (v := 10) dX2_mostSteps_31 (by decide) ?_
          refine qq_iret dX2_mostSteps_33 rfl rfl ⟨?_, rfl⟩
          rw [f_X2_mostSteps, if_pos zc1, if_pos zc2, if_pos zc3, if_neg zc4]
      · refine qq_bipush (v := 6) dX2_mostSteps_22 (by decide) ?_
        refine qq_iret dX2_mostSteps_24 rfl rfl ⟨?_, rfl⟩
        rw [f_X2_mostSteps, if_pos zc1, if_pos zc2, if_neg zc3]
    · refine qq_iconst (v := 5) dX2_mostSteps_14 (by decide) ?_
      refine qq_iret dX2_mostSteps_15 rfl rfl ⟨?_, rfl⟩
      rw [f_X2_mostSteps, if_pos zc1, if_neg zc2]
  · refine qq_iconst (v := 2) dX2_mostSteps_6 (by decide) ?_
    refine qq_iret dX2_mostSteps_7 rfl rfl ⟨?_, rfl⟩
    rw [f_X2_mostSteps, if_neg zc1]
def f_X1_mantissaOf (w : Int64) : Int64 := 4503599627370496 ||| (w &&& 4503599627370495)
set_option maxRecDepth 4000 in
theorem mt_X1_mantissaOf (hp : qq_H) (w : Int64) : qq_Mt mX1_mantissaOf [.long w] hp 0 0 (fun v hp' => v = some (.long (f_X1_mantissaOf w)) ∧ hp = hp') (fun _ _ => False) := by
  refine qq_met pn_X1 (Nat.le_of_ble_eq_true rfl) (Nat.le_of_ble_eq_true rfl) kc_X1_mantissaOf ?_
  show qq_Go _ hp 0 0 0 [(0, .long w)] [] _ _
  refine qq_ldc2 (v := 4503599627370496) dX1_mantissaOf_0 kl_X1_50 ?_
  refine qq_lload_n dX1_mantissaOf_3 rfl 0 rfl ?_
  refine qq_ldc2 (v := 4503599627370495) dX1_mantissaOf_4 kl_X1_52 ?_
  refine qq_land dX1_mantissaOf_7 ?_
  refine qq_lor dX1_mantissaOf_8 ?_
  refine qq_lret dX1_mantissaOf_9 rfl ⟨?_, rfl⟩
  rfl
def f_X1_exponentOf (w : Int64) : Int32 := ((w >>> ((52 : Int32).toInt64 &&& 63)).toInt32) &&& 2047
set_option maxRecDepth 4000 in
theorem mt_X1_exponentOf (hp : qq_H) (w : Int64) : qq_Mt mX1_exponentOf [.long w] hp 0 0 (fun v hp' => v = some (.int (f_X1_exponentOf w)) ∧ hp = hp') (fun _ _ => False) := by
  refine qq_met pn_X1 (Nat.le_of_ble_eq_true rfl) (Nat.le_of_ble_eq_true rfl) kc_X1_exponentOf ?_
  show qq_Go _ hp 0 0 0 [(0, .long w)] [] _ _
  refine qq_lload_n dX1_exponentOf_0 rfl 0 rfl ?_
  refine qq_bipush (v := 52) dX1_exponentOf_1 (by decide) ?_
  refine qq_lshr dX1_exponentOf_3 ?_
  refine qq_l2i dX1_exponentOf_4 ?_
  refine qq_sipush (v := 2047) dX1_exponentOf_5 (by decide) ?_
  refine qq_iand dX1_exponentOf_8 ?_
  refine qq_iret dX1_exponentOf_9 rfl rfl ⟨?_, rfl⟩
  rfl
def f_X1_compare (a : Int64) (b : Int64) : Int32 := if a = b then 0 else if 0 ≤ a then if b ≤ a then 1 else (-1) else if 0 ≤ b then if b ≤ a then 1 else (-1) else if a ≤ b then 1 else (-1)
set_option maxRecDepth 4000 in
theorem mt_X1_compare (hp : qq_H) (a : Int64) (b : Int64) : qq_Mt mX1_compare [.long a, .long b] hp 0 0 (fun v hp' => v = some (.int (f_X1_compare a b)) ∧ hp = hp') (fun _ _ => False) := by
  refine qq_met pn_X1 (Nat.le_of_ble_eq_true rfl) (Nat.le_of_ble_eq_true rfl) kc_X1_compare ?_
  show qq_Go _ hp 0 0 0 [(0, .long a), (2, .long b)] [] _ _
  refine qq_lload_n dX1_compare_0 rfl 0 rfl ?_
  refine qq_lload_n dX1_compare_1 rfl 1 rfl ?_
  refine qq_lc_ne (tgt := 8) dX1_compare_2 dX1_compare_3 (by decide) (fun zc1 => ?_) (fun zc1 => ?_)
  · refine qq_lload_n dX1_compare_8 rfl 0 rfl ?_
    refine qq_lconst (v := 0) dX1_compare_9 (by decide) ?_
    refine qq_lc_ge (tgt := 34) dX1_compare_10 dX1_compare_11 (by decide) (fun zc2 => ?_) (fun zc2 => ?_)
    · refine qq_lload_n dX1_compare_34 rfl 0 rfl ?_
      refine qq_lload_n dX1_compare_35 rfl 1 rfl ?_
      refine qq_lc_ge (tgt := 44) dX1_compare_36 dX1_compare_37 (by decide) (fun zc3 => ?_) (fun zc3 => ?_)
      · refine qq_iconst (v := 0) dX1_compare_44 (by decide) ?_
        refine qq_istore (loc' := [(0, .long a), (2, .long b), (4, .int 0)]) dX1_compare_45 [1, 2, 0] (Nat.le_of_ble_eq_true rfl) rfl ?_
        refine qq_iload dX1_compare_47 2 rfl ?_
        refine qq_if_eq (tgt := 56) dX1_compare_49 (by decide) (fun _ => ?_) (fun z => absurd (by decide) z)
        refine qq_iconst (v := 1) dX1_compare_56 (by decide) ?_
        refine qq_iret dX1_compare_57 rfl rfl ⟨?_, rfl⟩
        rw [f_X1_compare, if_neg zc1, if_pos zc2, if_pos zc3]
      · refine qq_iconst (v := 1) dX1_compare_40 (by decide) ?_
        refine qq_goto (tgt := 45) dX1_compare_41 (by decide) ?_
        refine qq_istore (loc' := [(0, .long a), (2, .long b), (4, .int 1)]) dX1_compare_45 [1, 2, 0] (Nat.le_of_ble_eq_true rfl) rfl ?_
        refine qq_iload dX1_compare_47 2 rfl ?_
        refine qq_if_eq (tgt := 56) dX1_compare_49 (by decide) (fun z => absurd z (by decide)) (fun _ => ?_)
        refine qq_iconst (v := (-1)) dX1_compare_52 (by decide) ?_
        refine qq_goto (tgt := 57) dX1_compare_53 (by decide) ?_
        refine qq_iret dX1_compare_57 rfl rfl ⟨?_, rfl⟩
        rw [f_X1_compare, if_neg zc1, if_pos zc2, if_neg zc3]
    · refine qq_lload_n dX1_compare_14 rfl 1 rfl ?_
      refine qq_lconst (v := 0) dX1_compare_15 (by decide) ?_
      refine qq_lc_ge (tgt := 34) dX1_compare_16 dX1_compare_17 (by decide) (fun zc4 => ?_) (fun zc4 => ?_)
      · refine qq_lload_n dX1_compare_34 rfl 0 rfl ?_
        refine qq_lload_n dX1_compare_35 rfl 1 rfl ?_
        refine qq_lc_ge (tgt := 44) dX1_compare_36 dX1_compare_37 (by decide) (fun zc5 => ?_) (fun zc5 => ?_)
        · refine qq_iconst (v := 0) dX1_compare_44 (by decide) ?_
          refine qq_istore (loc' := [(0, .long a), (2, .long b), (4, .int 0)]) dX1_compare_45 [1, 2, 0] (Nat.le_of_ble_eq_true rfl) rfl ?_
          refine qq_iload dX1_compare_47 2 rfl ?_
          refine qq_if_eq (tgt := 56) dX1_compare_49 (by decide) (fun _ => ?_) (fun z => absurd (by decide) z)
          refine qq_iconst (v := 1) dX1_compare_56 (by decide) ?_
          refine qq_iret dX1_compare_57 rfl rfl ⟨?_, rfl⟩
          rw [f_X1_compare, if_neg zc1, if_neg zc2, if_pos zc4, if_pos zc5]
        · refine qq_iconst (v := 1) dX1_compare_40 (by decide) ?_
          refine qq_goto (tgt := 45) dX1_compare_41 (by decide) ?_
          refine qq_istore (loc' := [(0, .long a), (2, .long b), (4, .int 1)]) dX1_compare_45 [1, 2, 0] (Nat.le_of_ble_eq_true rfl) rfl ?_
          refine qq_iload dX1_compare_47 2 rfl ?_
          refine qq_if_eq (tgt := 56) dX1_compare_49 (by decide) (fun z => absurd z (by decide)) (fun _ => ?_)
          refine qq_iconst (v := (-1)) dX1_compare_52 (by decide) ?_
          refine qq_goto (tgt := 57) dX1_compare_53 (by decide) ?_
          refine qq_iret dX1_compare_57 rfl rfl ⟨?_, rfl⟩
          rw [f_X1_compare, if_neg zc1, if_neg zc2, if_pos zc4, if_neg zc5]
      · refine qq_lload_n dX1_compare_20 rfl 0 rfl ?_
        refine qq_lload_n dX1_compare_21 rfl 1 rfl ?_
        refine qq_lc_le (tgt := 30) dX1_compare_22 dX1_compare_23 (by decide) (fun zc6 => ?_) (fun zc6 => ?_)
        · refine qq_iconst (v := 0) dX1_compare_30 (by decide) ?_
          refine qq_goto (tgt := 45) dX1_compare_31 (by decide) ?_
          refine qq_istore (loc' := [(0, .long a), (2, .long b), (4, .int 0)]) dX1_compare_45 [1, 2, 0] (Nat.le_of_ble_eq_true rfl) rfl ?_
          refine qq_iload dX1_compare_47 2 rfl ?_
          refine qq_if_eq (tgt := 56) dX1_compare_49 (by decide) (fun _ => ?_) (fun z => absurd (by decide) z)
          refine qq_iconst (v := 1) dX1_compare_56 (by decide) ?_
          refine qq_iret dX1_compare_57 rfl rfl ⟨?_, rfl⟩
          rw [f_X1_compare, if_neg zc1, if_neg zc2, if_neg zc4, if_pos zc6]
        · refine qq_iconst (v := 1) dX1_compare_26 (by decide) ?_
          refine qq_goto (tgt := 45) dX1_compare_27 (by decide) ?_
          refine qq_istore (loc' := [(0, .long a), (2, .long b), (4, .int 1)]) dX1_compare_45 [1, 2, 0] (Nat.le_of_ble_eq_true rfl) rfl ?_
          refine qq_iload dX1_compare_47 2 rfl ?_
          refine qq_if_eq (tgt := 56) dX1_compare_49 (by decide) (fun z => absurd z (by decide)) (fun _ => ?_)
          refine qq_iconst (v := (-1)) dX1_compare_52 (by decide) ?_
          refine qq_goto (tgt := 57) dX1_compare_53 (by decide) ?_
          refine qq_iret dX1_compare_57 rfl rfl ⟨?_, rfl⟩
          rw [f_X1_compare, if_neg zc1, if_neg zc2, if_neg zc4, if_neg zc6]
  · refine qq_iconst (v := 0) dX1_compare_6 (by decide) ?_
    refine qq_iret dX1_compare_7 rfl rfl ⟨?_, rfl⟩
    rw [f_X1_compare, if_pos zc1]
def f_X1_steps (a : Int64) (b : Int64) : Int64 := if 0 < (a - b) then (a - b) else -(a - b)
set_option maxRecDepth 4000 in
theorem mt_X1_steps (hp : qq_H) (a : Int64) (b : Int64) : qq_Mt mX1_steps [.long a, .long b] hp 0 0 (fun v hp' => v = some (.long (f_X1_steps a b)) ∧ hp = hp') (fun _ _ => False) := by
  refine qq_met pn_X1 (Nat.le_of_ble_eq_true rfl) (Nat.le_of_ble_eq_true rfl) kc_X1_steps ?_
  show qq_Go _ hp 0 0 0 [(0, .long a), (2, .long b)] [] _ _
  refine qq_lload_n dX1_steps_0 rfl 0 rfl ?_
  refine qq_lload_n dX1_steps_1 rfl 1 rfl ?_
  refine qq_lsub dX1_steps_2 ?_
  refine qq_absJ dX1_steps_3 kl_X1_54 ks_absJ ki_J9 kc_absJ (Nat.le_of_ble_eq_true rfl) ?_
  refine qq_lret dX1_steps_6 rfl ⟨?_, rfl⟩
  rfl
def f_X1_heightOf (w : Int64) : Int32 := (f_X1_exponentOf w) - 1023
set_option maxRecDepth 4000 in
theorem mt_X1_heightOf (hp : qq_H) (w : Int64) : qq_Mt mX1_heightOf [.long w] hp 0 0 (fun v hp' => v = some (.int (f_X1_heightOf w)) ∧ hp = hp') (fun _ _ => False) := by
  refine qq_met pn_X1 (Nat.le_of_ble_eq_true rfl) (Nat.le_of_ble_eq_true rfl) kc_X1_heightOf ?_
  show qq_Go _ hp 0 0 0 [(0, .long w)] [] _ _
  refine qq_lload_n dX1_heightOf_0 rfl 0 rfl ?_
  refine qq_callS (bc := 0) (bs := 0) (mc := 0) (ms := 0) (as := [.long w]) (rest := []) dX1_heightOf_1 (mt_X1_exponentOf hp w) rfl kl_X1_60 ks_X1_exponentOf ki_X1 kc_X1_exponentOf kd_X1_exponentOf rfl (by decide) (by decide) (Nat.le_of_ble_eq_true rfl) (fun v hp' hv _ _ => ?_) (fun E hp' h _ _ => h.elim)
  obtain ⟨rfl, rfl⟩ := hv
  show qq_Go _ hp 0 0 4 [(0, .long w)] [.int (f_X1_exponentOf w)] _ _
  refine qq_sipush (v := 1023) dX1_heightOf_4 (by decide) ?_
  refine qq_isub dX1_heightOf_7 ?_
  refine qq_iret dX1_heightOf_8 rfl rfl ⟨?_, rfl⟩
  rfl
def f_X1_firstDigits (w : Int64) : Int32 := ((f_X1_mantissaOf w) >>> ((22 : Int32).toInt64 &&& 63)).toInt32
set_option maxRecDepth 4000 in
theorem mt_X1_firstDigits (hp : qq_H) (w : Int64) : qq_Mt mX1_firstDigits [.long w] hp 0 0 (fun v hp' => v = some (.int (f_X1_firstDigits w)) ∧ hp = hp') (fun _ _ => False) := by
  refine qq_met pn_X1 (Nat.le_of_ble_eq_true rfl) (Nat.le_of_ble_eq_true rfl) kc_X1_firstDigits ?_
  show qq_Go _ hp 0 0 0 [(0, .long w)] [] _ _
  refine qq_lload_n dX1_firstDigits_0 rfl 0 rfl ?_
  refine qq_callS (bc := 0) (bs := 0) (mc := 0) (ms := 0) (as := [.long w]) (rest := []) dX1_firstDigits_1 (mt_X1_mantissaOf hp w) rfl kl_X1_64 ks_X1_mantissaOf ki_X1 kc_X1_mantissaOf kd_X1_mantissaOf rfl (by decide) (by decide) (Nat.le_of_ble_eq_true rfl) (fun v hp' hv _ _ => ?_) (fun E hp' h _ _ => h.elim)
  obtain ⟨rfl, rfl⟩ := hv
  show qq_Go _ hp 0 0 4 [(0, .long w)] [.long (f_X1_mantissaOf w)] _ _
  refine qq_bipush (v := 22) dX1_firstDigits_4 (by decide) ?_
  refine qq_lshr dX1_firstDigits_6 ?_
  refine qq_l2i dX1_firstDigits_7 ?_
  refine qq_iret dX1_firstDigits_8 rfl rfl ⟨?_, rfl⟩
  rfl
def f_X1_roundedDown (w : Int64) (k : Int32) : Int64 := if w = 0 then 0 else if w = (-9223372036854775808) then 0 else if 0 ≤ ((1075 - (f_X1_exponentOf w)) - k) then if ((1075 - (f_X1_exponentOf w)) - k) ≤ 52 then if 52 < ((1075 - (f_X1_exponentOf w)) - k) then if 0 ≤ w then (f_X1_mantissaOf w) >>> (((1075 - (f_X1_exponentOf w)) - k).toInt64 &&& 63) else (-((f_X1_mantissaOf w) >>> (((1075 - (f_X1_exponentOf w)) - k).toInt64 &&& 63))) - 1 else if (((f_X1_mantissaOf w) >>> (((1075 - (f_X1_exponentOf w)) - k).toInt64 &&& 63)) <<< (((1075 - (f_X1_exponentOf w)) - k).toInt64 &&& 63)) = (f_X1_mantissaOf w) then if 0 ≤ w then (f_X1_mantissaOf w) >>> (((1075 - (f_X1_exponentOf w)) - k).toInt64 &&& 63) else -((f_X1_mantissaOf w) >>> (((1075 - (f_X1_exponentOf w)) - k).toInt64 &&& 63)) else if 0 ≤ w then (f_X1_mantissaOf w) >>> (((1075 - (f_X1_exponentOf w)) - k).toInt64 &&& 63) else (-((f_X1_mantissaOf w) >>> (((1075 - (f_X1_exponentOf w)) - k).toInt64 &&& 63))) - 1 else if 52 < ((1075 - (f_X1_exponentOf w)) - k) then if 0 ≤ w then 0 else (-0) - 1 else if (0 <<< (((1075 - (f_X1_exponentOf w)) - k).toInt64 &&& 63)) = (f_X1_mantissaOf w) then if 0 ≤ w then 0 else -0 else if 0 ≤ w then 0 else (-0) - 1 else if 0 ≤ w then 9007199254740992 else -9007199254740992
set_option maxRecDepth 4000 in
theorem mt_X1_roundedDown (hp : qq_H) (w : Int64) (k : Int32) : qq_Mt mX1_roundedDown [.long w, .int k] hp 0 0 (fun v hp' => v = some (.long (f_X1_roundedDown w k)) ∧ hp = hp') (fun _ _ => False) := by
  refine qq_met pn_X1 (Nat.le_of_ble_eq_true rfl) (Nat.le_of_ble_eq_true rfl) kc_X1_roundedDown ?_
  show qq_Go _ hp 0 0 0 [(0, .long w), (2, .int k)] [] _ _
  refine qq_lload_n dX1_roundedDown_0 rfl 0 rfl ?_
  refine qq_lconst (v := 0) dX1_roundedDown_1 (by decide) ?_
  refine qq_lc_eq (tgt := 14) dX1_roundedDown_2 dX1_roundedDown_3 (by decide) (fun zc1 => ?_) (fun zc1 => ?_)
  · refine qq_lconst (v := 0) dX1_roundedDown_14 (by decide) ?_
    refine qq_lret dX1_roundedDown_15 rfl ⟨?_, rfl⟩
    rw [f_X1_roundedDown, if_pos zc1]
  · refine qq_lload_n dX1_roundedDown_6 rfl 0 rfl ?_
    refine qq_ldc2 (v := (-9223372036854775808)) dX1_roundedDown_7 kl_X1_26 ?_
    refine qq_lc_ne (tgt := 16) dX1_roundedDown_10 dX1_roundedDown_11 (by decide) (fun zc2 => ?_) (fun zc2 => ?_)
    · refine qq_lload_n dX1_roundedDown_16 rfl 0 rfl ?_
      refine qq_callS (bc := 0) (bs := 0) (mc := 0) (ms := 0) (as := [.long w]) (rest := []) dX1_roundedDown_17 (mt_X1_mantissaOf hp w) rfl kl_X1_64 ks_X1_mantissaOf ki_X1 kc_X1_mantissaOf kd_X1_mantissaOf rfl (by decide) (by decide) (Nat.le_of_ble_eq_true rfl) (fun v hp' hv _ _ => ?_) (fun E hp' h _ _ => h.elim)
      obtain ⟨rfl, rfl⟩ := hv
      show qq_Go _ hp 0 0 20 [(0, .long w), (2, .int k)] [.long (f_X1_mantissaOf w)] _ _
      refine qq_lstore_n (loc' := [(0, .long w), (2, .int k), (3, .long (f_X1_mantissaOf w))]) dX1_roundedDown_20 rfl [1, 2, 0] (Nat.le_of_ble_eq_true rfl) rfl ?_
      refine qq_sipush (v := 1075) dX1_roundedDown_21 (by decide) ?_
      refine qq_lload_n dX1_roundedDown_24 rfl 0 rfl ?_
      refine qq_callS (bc := 0) (bs := 0) (mc := 0) (ms := 0) (as := [.long w]) (rest := [.int 1075]) dX1_roundedDown_25 (mt_X1_exponentOf hp w) rfl kl_X1_60 ks_X1_exponentOf ki_X1 kc_X1_exponentOf kd_X1_exponentOf rfl (by decide) (by decide) (Nat.le_of_ble_eq_true rfl) (fun v hp' hv _ _ => ?_) (fun E hp' h _ _ => h.elim)
      obtain ⟨rfl, rfl⟩ := hv
      show qq_Go _ hp 0 0 28 [(0, .long w), (2, .int k), (3, .long (f_X1_mantissaOf w))] [.int (f_X1_exponentOf w), .int 1075] _ _
      refine qq_isub dX1_roundedDown_28 ?_
      refine qq_iload_n dX1_roundedDown_29 rfl 1 rfl ?_
      refine qq_isub dX1_roundedDown_30 ?_
      refine qq_istore (loc' := [(0, .long w), (2, .int k), (3, .long (f_X1_mantissaOf w)), (5, .int ((1075 - (f_X1_exponentOf w)) - k))]) dX1_roundedDown_31 [1, 2, 3, 0] (Nat.le_of_ble_eq_true rfl) rfl ?_
      refine qq_iload dX1_roundedDown_33 3 rfl ?_
      refine qq_if_ge (tgt := 54) dX1_roundedDown_35 (by decide) (fun zc3 => ?_) (fun zc3 => ?_)
      · refine qq_iload dX1_roundedDown_54 3 rfl ?_
        refine qq_bipush (v := 52) dX1_roundedDown_56 (by decide) ?_
        refine qq_icmp_le (tgt := 65) dX1_roundedDown_58 (by decide) (fun zc4 => ?_) (fun zc4 => ?_)
        · refine qq_lload_n dX1_roundedDown_65 rfl 2 rfl ?_
          refine qq_iload dX1_roundedDown_66 3 rfl ?_
          refine qq_lshr dX1_roundedDown_68 ?_
          refine qq_lstore (loc' := [(0, .long w), (2, .int k), (3, .long (f_X1_mantissaOf w)), (5, .int ((1075 - (f_X1_exponentOf w)) - k)), (6, .long ((f_X1_mantissaOf w) >>> (((1075 - (f_X1_exponentOf w)) - k).toInt64 &&& 63)))]) dX1_roundedDown_69 [1, 2, 3, 4, 0] (Nat.le_of_ble_eq_true rfl) rfl ?_
          refine qq_iload dX1_roundedDown_71 3 rfl ?_
          refine qq_bipush (v := 52) dX1_roundedDown_73 (by decide) ?_
          refine qq_icmp_gt (tgt := 88) dX1_roundedDown_75 (by decide) (fun zc5 => ?_) (fun zc5 => ?_)
          · refine qq_iconst (v := 1) dX1_roundedDown_88 (by decide) ?_
            refine qq_goto (tgt := 93) dX1_roundedDown_89 (by decide) ?_
            refine qq_istore (loc' := [(0, .long w), (2, .int k), (3, .long (f_X1_mantissaOf w)), (5, .int ((1075 - (f_X1_exponentOf w)) - k)), (6, .long ((f_X1_mantissaOf w) >>> (((1075 - (f_X1_exponentOf w)) - k).toInt64 &&& 63))), (8, .int 1)]) dX1_roundedDown_93 [1, 2, 3, 4, 5, 0] (Nat.le_of_ble_eq_true rfl) rfl ?_
            refine qq_lload_n dX1_roundedDown_95 rfl 0 rfl ?_
            refine qq_lconst (v := 0) dX1_roundedDown_96 (by decide) ?_
            refine qq_lc_ge (tgt := 118) dX1_roundedDown_97 dX1_roundedDown_98 (by decide) (fun zc6 => ?_) (fun zc6 => ?_)
            · refine qq_lload dX1_roundedDown_118 4 rfl ?_
              refine qq_lret dX1_roundedDown_120 rfl ⟨?_, rfl⟩
              rw [f_X1_roundedDown, if_neg zc1, if_neg zc2, if_pos zc3, if_pos zc4, if_pos zc5, if_pos zc6]
            · refine qq_iload dX1_roundedDown_101 5 rfl ?_
              refine qq_if_eq (tgt := 114) dX1_roundedDown_103 (by decide) (fun z => absurd z (by decide)) (fun _ => ?_)
              refine qq_lload dX1_roundedDown_106 4 rfl ?_
              refine qq_lneg dX1_roundedDown_108 ?_
              refine qq_lconst (v := 1) dX1_roundedDown_109 (by decide) ?_
              refine qq_lsub dX1_roundedDown_110 ?_
              refine qq_goto (tgt := 117) dX1_roundedDown_111 (by decide) ?_
              refine qq_lret dX1_roundedDown_117 rfl ⟨?_, rfl⟩
              rw [f_X1_roundedDown, if_neg zc1, if_neg zc2, if_pos zc3, if_pos zc4, if_pos zc5, if_neg zc6]
          · refine qq_lload dX1_roundedDown_78 4 rfl ?_
            refine qq_iload dX1_roundedDown_80 3 rfl ?_
            refine qq_lshl dX1_roundedDown_82 ?_
            refine qq_lload_n dX1_roundedDown_83 rfl 2 rfl ?_
            refine qq_lc_eq (tgt := 92) dX1_roundedDown_84 dX1_roundedDown_85 (by decide) (fun zc7 => ?_) (fun zc7 => ?_)
            · refine qq_iconst (v := 0) dX1_roundedDown_92 (by decide) ?_
              refine qq_istore (loc' := [(0, .long w), (2, .int k), (3, .long (f_X1_mantissaOf w)), (5, .int ((1075 - (f_X1_exponentOf w)) - k)), (6, .long ((f_X1_mantissaOf w) >>> (((1075 - (f_X1_exponentOf w)) - k).toInt64 &&& 63))), (8, .int 0)]) dX1_roundedDown_93 [1, 2, 3, 4, 5, 0] (Nat.le_of_ble_eq_true rfl) rfl ?_
              refine qq_lload_n dX1_roundedDown_95 rfl 0 rfl ?_
              refine qq_lconst (v := 0) dX1_roundedDown_96 (by decide) ?_
              refine qq_lc_ge (tgt := 118) dX1_roundedDown_97 dX1_roundedDown_98 (by decide) (fun zc8 => ?_) (fun zc8 => ?_)
              · refine qq_lload dX1_roundedDown_118 4 rfl ?_
                refine qq_lret dX1_roundedDown_120 rfl ⟨?_, rfl⟩
                rw [f_X1_roundedDown, if_neg zc1, if_neg zc2, if_pos zc3, if_pos zc4, if_neg zc5, if_pos zc7, if_pos zc8]
              · refine qq_iload dX1_roundedDown_101 5 rfl ?_
                refine qq_if_eq (tgt := 114) dX1_roundedDown_103 (by decide) (fun _ => ?_) (fun z => absurd (by decide) z)
                refine qq_lload dX1_roundedDown_114 4 rfl ?_
                refine qq_lneg dX1_roundedDown_116 ?_
                refine qq_lret dX1_roundedDown_117 rfl ⟨?_, rfl⟩
                rw [f_X1_roundedDown, if_neg zc1, if_neg zc2, if_pos zc3, if_pos zc4, if_neg zc5, if_pos zc7, if_neg zc8]
            · refine qq_iconst (v := 1) dX1_roundedDown_88 (by decide) ?_
              refine qq_goto (tgt := 93) dX1_roundedDown_89 (by decide) ?_
              refine qq_istore (loc' := [(0, .long w), (2, .int k), (3, .long (f_X1_mantissaOf w)), (5, .int ((1075 - (f_X1_exponentOf w)) - k)), (6, .long ((f_X1_mantissaOf w) >>> (((1075 - (f_X1_exponentOf w)) - k).toInt64 &&& 63))), (8, .int 1)]) dX1_roundedDown_93 [1, 2, 3, 4, 5, 0] (Nat.le_of_ble_eq_true rfl) rfl ?_
              refine qq_lload_n dX1_roundedDown_95 rfl 0 rfl ?_
              refine qq_lconst (v := 0) dX1_roundedDown_96 (by decide) ?_
              refine qq_lc_ge (tgt := 118) dX1_roundedDown_97 dX1_roundedDown_98 (by decide) (fun zc9 => ?_) (fun zc9 => ?_)
              · refine qq_lload dX1_roundedDown_118 4 rfl ?_
                refine qq_lret dX1_roundedDown_120 rfl ⟨?_, rfl⟩
                rw [f_X1_roundedDown, if_neg zc1, if_neg zc2, if_pos zc3, if_pos zc4, if_neg zc5, if_neg zc7, if_pos zc9]
              · refine qq_iload dX1_roundedDown_101 5 rfl ?_
                refine qq_if_eq (tgt := 114) dX1_roundedDown_103 (by decide) (fun z => absurd z (by decide)) (fun _ => ?_)
                refine qq_lload dX1_roundedDown_106 4 rfl ?_
                refine qq_lneg dX1_roundedDown_108 ?_
                refine qq_lconst (v := 1) dX1_roundedDown_109 (by decide) ?_
                refine qq_lsub dX1_roundedDown_110 ?_
                refine qq_goto (tgt := 117) dX1_roundedDown_111 (by decide) ?_
                refine qq_lret dX1_roundedDown_117 rfl ⟨?_, rfl⟩
                rw [f_X1_roundedDown, if_neg zc1, if_neg zc2, if_pos zc3, if_pos zc4, if_neg zc5, if_neg zc7, if_neg zc9]
        · refine qq_lconst (v := 0) dX1_roundedDown_61 (by decide) ?_
          refine qq_goto (tgt := 69) dX1_roundedDown_62 (by decide) ?_
          refine qq_lstore (loc' := [(0, .long w), (2, .int k), (3, .long (f_X1_mantissaOf w)), (5, .int ((1075 - (f_X1_exponentOf w)) - k)), (6, .long 0)]) dX1_roundedDown_69 [1, 2, 3, 4, 0] (Nat.le_of_ble_eq_true rfl) rfl ?_
          refine qq_iload dX1_roundedDown_71 3 rfl ?_
          refine qq_bipush (v := 52) dX1_roundedDown_73 (by decide) ?_
          refine qq_icmp_gt (tgt := 88) dX1_roundedDown_75 (by decide) (fun zc10 => ?_) (fun zc10 => ?_)
          · refine qq_iconst (v := 1) dX1_roundedDown_88 (by decide) ?_
            refine qq_goto (tgt := 93) dX1_roundedDown_89 (by decide) ?_
            refine qq_istore (loc' := [(0, .long w), (2, .int k), (3, .long (f_X1_mantissaOf w)), (5, .int ((1075 - (f_X1_exponentOf w)) - k)), (6, .long 0), (8, .int 1)]) dX1_roundedDown_93 [1, 2, 3, 4, 5, 0] (Nat.le_of_ble_eq_true rfl) rfl ?_
            refine qq_lload_n dX1_roundedDown_95 rfl 0 rfl ?_
            refine qq_lconst (v := 0) dX1_roundedDown_96 (by decide) ?_
            refine qq_lc_ge (tgt := 118) dX1_roundedDown_97 dX1_roundedDown_98 (by decide) (fun zc11 => ?_) (fun zc11 => ?_)
            · refine qq_lload dX1_roundedDown_118 4 rfl ?_
              refine qq_lret dX1_roundedDown_120 rfl ⟨?_, rfl⟩
              rw [f_X1_roundedDown, if_neg zc1, if_neg zc2, if_pos zc3, if_neg zc4, if_pos zc10, if_pos zc11]
            · refine qq_iload dX1_roundedDown_101 5 rfl ?_
              refine qq_if_eq (tgt := 114) dX1_roundedDown_103 (by decide) (fun z => absurd z (by decide)) (fun _ => ?_)
              refine qq_lload dX1_roundedDown_106 4 rfl ?_
              refine qq_lneg dX1_roundedDown_108 ?_
              refine qq_lconst (v := 1) dX1_roundedDown_109 (by decide) ?_
              refine qq_lsub dX1_roundedDown_110 ?_
              refine qq_goto (tgt := 117) dX1_roundedDown_111 (by decide) ?_
              refine qq_lret dX1_roundedDown_117 rfl ⟨?_, rfl⟩
              rw [f_X1_roundedDown, if_neg zc1, if_neg zc2, if_pos zc3, if_neg zc4, if_pos zc10, if_neg zc11]
          · refine qq_lload dX1_roundedDown_78 4 rfl ?_
            refine qq_iload dX1_roundedDown_80 3 rfl ?_
            refine qq_lshl dX1_roundedDown_82 ?_
            refine qq_lload_n dX1_roundedDown_83 rfl 2 rfl ?_
            refine qq_lc_eq (tgt := 92) dX1_roundedDown_84 dX1_roundedDown_85 (by decide) (fun zc12 => ?_) (fun zc12 => ?_)
            · refine qq_iconst (v := 0) dX1_roundedDown_92 (by decide) ?_
              refine qq_istore (loc' := [(0, .long w), (2, .int k), (3, .long (f_X1_mantissaOf w)), (5, .int ((1075 - (f_X1_exponentOf w)) - k)), (6, .long 0), (8, .int 0)]) dX1_roundedDown_93 [1, 2, 3, 4, 5, 0] (Nat.le_of_ble_eq_true rfl) rfl ?_
              refine qq_lload_n dX1_roundedDown_95 rfl 0 rfl ?_
              refine qq_lconst (v := 0) dX1_roundedDown_96 (by decide) ?_
              refine qq_lc_ge (tgt := 118) dX1_roundedDown_97 dX1_roundedDown_98 (by decide) (fun zc13 => ?_) (fun zc13 => ?_)
              · refine qq_lload dX1_roundedDown_118 4 rfl ?_
                refine qq_lret dX1_roundedDown_120 rfl ⟨?_, rfl⟩
                rw [f_X1_roundedDown, if_neg zc1, if_neg zc2, if_pos zc3, if_neg zc4, if_neg zc10, if_pos zc12, if_pos zc13]
              · refine qq_iload dX1_roundedDown_101 5 rfl ?_
                refine qq_if_eq (tgt := 114) dX1_roundedDown_103 (by decide) (fun _ => ?_) (fun z => absurd (by decide) z)
                refine qq_lload dX1_roundedDown_114 4 rfl ?_
                refine qq_lneg dX1_roundedDown_116 ?_
                refine qq_lret dX1_roundedDown_117 rfl ⟨?_, rfl⟩
                rw [f_X1_roundedDown, if_neg zc1, if_neg zc2, if_pos zc3, if_neg zc4, if_neg zc10, if_pos zc12, if_neg zc13]
            · refine qq_iconst (v := 1) dX1_roundedDown_88 (by decide) ?_
              refine qq_goto (tgt := 93) dX1_roundedDown_89 (by decide) ?_
              refine qq_istore (loc' := [(0, .long w), (2, .int k), (3, .long (f_X1_mantissaOf w)), (5, .int ((1075 - (f_X1_exponentOf w)) - k)), (6, .long 0), (8, .int 1)]) dX1_roundedDown_93 [1, 2, 3, 4, 5, 0] (Nat.le_of_ble_eq_true rfl) rfl ?_
              refine qq_lload_n dX1_roundedDown_95 rfl 0 rfl ?_
              refine qq_lconst (v := 0) dX1_roundedDown_96 (by decide) ?_
              refine qq_lc_ge (tgt := 118) dX1_roundedDown_97 dX1_roundedDown_98 (by decide) (fun zc14 => ?_) (fun zc14 => ?_)
              · refine qq_lload dX1_roundedDown_118 4 rfl ?_
                refine qq_lret dX1_roundedDown_120 rfl ⟨?_, rfl⟩
                rw [f_X1_roundedDown, if_neg zc1, if_neg zc2, if_pos zc3, if_neg zc4, if_neg zc10, if_neg zc12, if_pos zc14]
              · refine qq_iload dX1_roundedDown_101 5 rfl ?_
                refine qq_if_eq (tgt := 114) dX1_roundedDown_103 (by decide) (fun z => absurd z (by decide)) (fun _ => ?_)
                refine qq_lload dX1_roundedDown_106 4 rfl ?_
                refine qq_lneg dX1_roundedDown_108 ?_
                refine qq_lconst (v := 1) dX1_roundedDown_109 (by decide) ?_
                refine qq_lsub dX1_roundedDown_110 ?_
                refine qq_goto (tgt := 117) dX1_roundedDown_111 (by decide) ?_
                refine qq_lret dX1_roundedDown_117 rfl ⟨?_, rfl⟩
                rw [f_X1_roundedDown, if_neg zc1, if_neg zc2, if_pos zc3, if_neg zc4, if_neg zc10, if_neg zc12, if_neg zc14]
      · refine qq_lload_n dX1_roundedDown_38 rfl 0 rfl ?_
        refine qq_lconst (v := 0) dX1_roundedDown_39 (by decide) ?_
        refine qq_lc_ge (tgt := 50) dX1_roundedDown_40 dX1_roundedDown_41 (by decide) (fun zc15 => ?_) (fun zc15 => ?_)
        · refine qq_ldc2 (v := 9007199254740992) dX1_roundedDown_50 kl_X1_69 ?_
          refine qq_lret dX1_roundedDown_53 rfl ⟨?_, rfl⟩
          rw [f_X1_roundedDown, if_neg zc1, if_neg zc2, if_neg zc3, if_pos zc15]
        · refine qq_ldc2 (v := (-9007199254740992)) dX1_roundedDown_44 kl_X1_67 ?_
          refine qq_goto (tgt := 53) dX1_roundedDown_47 (by decide) ?_
          refine qq_lret dX1_roundedDown_53 rfl ⟨?_, rfl⟩
          rw [f_X1_roundedDown, if_neg zc1, if_neg zc2, if_neg zc3, if_neg zc15]
    · refine qq_lconst (v := 0) dX1_roundedDown_14 (by decide) ?_
      refine qq_lret dX1_roundedDown_15 rfl ⟨?_, rfl⟩
      rw [f_X1_roundedDown, if_neg zc1, if_pos zc2]
def lf_X1_scaled_32 (n : Int64) (k : Int32) : Nat → Int64 → Int64 → Int32 → Int64
  | 0, _, _, _ => 0
  | fu + 1, m, ex, i => if 52 ≤ i then if 0 ≤ n then (ex <<< ((52 : Int32).toInt64 &&& 63)) ||| (m &&& 4503599627370495) else ((ex <<< ((52 : Int32).toInt64 &&& 63)) ||| (m &&& 4503599627370495)) ||| (-9223372036854775808) else if 4503599627370496 ≤ m then if 0 ≤ n then (ex <<< ((52 : Int32).toInt64 &&& 63)) ||| (m &&& 4503599627370495) else ((ex <<< ((52 : Int32).toInt64 &&& 63)) ||| (m &&& 4503599627370495)) ||| (-9223372036854775808) else lf_X1_scaled_32 n k fu (m <<< ((1 : Int32).toInt64 &&& 63)) (ex - 1) (i + 1)
set_option maxRecDepth 4000 in
theorem lp_X1_scaled_32 (hp : qq_H)  (n : Int64) (k : Int32) : ∀ (fu : Nat) (m : Int64) (ex : Int64) (i : Int32), ((52 : Int32).toInt - i.toInt).toNat < fu → qq_Go mX1_scaled hp 0 0 32 [(0, .long n), (2, .int k), (3, .long m), (5, .long ex), (7, .int i)] [] (fun v hp' => v = some (.long (lf_X1_scaled_32 n k fu m ex i)) ∧ hp = hp') (fun _ _ => False)
  | 0, _, _, _, zh => absurd zh (Nat.not_lt_zero _)
  | fu + 1, m, ex, i, zh => by
    refine qq_iload dX1_scaled_32 4 rfl ?_
    refine qq_bipush (v := 52) dX1_scaled_34 (by decide) ?_
    refine qq_icmp_ge (tgt := 63) dX1_scaled_36 (by decide) (fun zc1 => ?_) (fun zc1 => ?_)
    · refine qq_lload dX1_scaled_63 3 rfl ?_
      refine qq_bipush (v := 52) dX1_scaled_65 (by decide) ?_
      refine qq_lshl dX1_scaled_67 ?_
      refine qq_lload_n dX1_scaled_68 rfl 2 rfl ?_
      refine qq_ldc2 (v := 4503599627370495) dX1_scaled_69 kl_X1_52 ?_
      refine qq_land dX1_scaled_72 ?_
      refine qq_lor dX1_scaled_73 ?_
      refine qq_lstore (loc' := [(0, .long n), (2, .int k), (3, .long m), (5, .long ex), (7, .long ((ex <<< ((52 : Int32).toInt64 &&& 63)) ||| (m &&& 4503599627370495)))]) dX1_scaled_74 [1, 2, 3, 4, 0] (Nat.le_of_ble_eq_true rfl) rfl ?_
      refine qq_lload_n dX1_scaled_76 rfl 0 rfl ?_
      refine qq_lconst (v := 0) dX1_scaled_77 (by decide) ?_
      refine qq_lc_ge (tgt := 91) dX1_scaled_78 dX1_scaled_79 (by decide) (fun zc2 => ?_) (fun zc2 => ?_)
      · refine qq_lload dX1_scaled_91 4 rfl ?_
        refine qq_lret dX1_scaled_93 rfl ⟨?_, rfl⟩
        rw [lf_X1_scaled_32, if_pos zc1, if_pos zc2]
      · refine qq_lload dX1_scaled_82 4 rfl ?_
        refine qq_ldc2 (v := (-9223372036854775808)) dX1_scaled_84 kl_X1_26 ?_
        refine qq_lor dX1_scaled_87 ?_
        refine qq_goto (tgt := 93) dX1_scaled_88 (by decide) ?_
        refine qq_lret dX1_scaled_93 rfl ⟨?_, rfl⟩
        rw [lf_X1_scaled_32, if_pos zc1, if_neg zc2]
    · refine qq_lload_n dX1_scaled_39 rfl 2 rfl ?_
      refine qq_ldc2 (v := 4503599627370496) dX1_scaled_40 kl_X1_50 ?_
      refine qq_lc_ge (tgt := 63) dX1_scaled_43 dX1_scaled_44 (by decide) (fun zc3 => ?_) (fun zc3 => ?_)
      · refine qq_lload dX1_scaled_63 3 rfl ?_
        refine qq_bipush (v := 52) dX1_scaled_65 (by decide) ?_
        refine qq_lshl dX1_scaled_67 ?_
        refine qq_lload_n dX1_scaled_68 rfl 2 rfl ?_
        refine qq_ldc2 (v := 4503599627370495) dX1_scaled_69 kl_X1_52 ?_
        refine qq_land dX1_scaled_72 ?_
        refine qq_lor dX1_scaled_73 ?_
        refine qq_lstore (loc' := [(0, .long n), (2, .int k), (3, .long m), (5, .long ex), (7, .long ((ex <<< ((52 : Int32).toInt64 &&& 63)) ||| (m &&& 4503599627370495)))]) dX1_scaled_74 [1, 2, 3, 4, 0] (Nat.le_of_ble_eq_true rfl) rfl ?_
        refine qq_lload_n dX1_scaled_76 rfl 0 rfl ?_
        refine qq_lconst (v := 0) dX1_scaled_77 (by decide) ?_
        refine qq_lc_ge (tgt := 91) dX1_scaled_78 dX1_scaled_79 (by decide) (fun zc4 => ?_) (fun zc4 => ?_)
        · refine qq_lload dX1_scaled_91 4 rfl ?_
          refine qq_lret dX1_scaled_93 rfl ⟨?_, rfl⟩
          rw [lf_X1_scaled_32, if_neg zc1, if_pos zc3, if_pos zc4]
        · refine qq_lload dX1_scaled_82 4 rfl ?_
          refine qq_ldc2 (v := (-9223372036854775808)) dX1_scaled_84 kl_X1_26 ?_
          refine qq_lor dX1_scaled_87 ?_
          refine qq_goto (tgt := 93) dX1_scaled_88 (by decide) ?_
          refine qq_lret dX1_scaled_93 rfl ⟨?_, rfl⟩
          rw [lf_X1_scaled_32, if_neg zc1, if_pos zc3, if_neg zc4]
      · refine qq_lload_n dX1_scaled_47 rfl 2 rfl ?_
        refine qq_iconst (v := 1) dX1_scaled_48 (by decide) ?_
        refine qq_lshl dX1_scaled_49 ?_
        refine qq_lstore_n (loc' := [(0, .long n), (2, .int k), (3, .long (m <<< ((1 : Int32).toInt64 &&& 63))), (5, .long ex), (7, .int i)]) dX1_scaled_50 rfl [1, 2, 0, 3, 4] (Nat.le_of_ble_eq_true rfl) rfl ?_
        refine qq_lload dX1_scaled_51 3 rfl ?_
        refine qq_lconst (v := 1) dX1_scaled_53 (by decide) ?_
        refine qq_lsub dX1_scaled_54 ?_
        refine qq_lstore (loc' := [(0, .long n), (2, .int k), (3, .long (m <<< ((1 : Int32).toInt64 &&& 63))), (5, .long (ex - 1)), (7, .int i)]) dX1_scaled_55 [1, 2, 3, 0, 4] (Nat.le_of_ble_eq_true rfl) rfl ?_
        refine qq_iinc (v := i + 1) (loc' := [(0, .long n), (2, .int k), (3, .long (m <<< ((1 : Int32).toInt64 &&& 63))), (5, .long (ex - 1)), (7, .int (i + 1))]) dX1_scaled_57 4 rfl rfl [1, 2, 3, 4, 0] (Nat.le_of_ble_eq_true rfl) rfl ?_
        refine qq_goto (tgt := 32) dX1_scaled_60 (by decide) ?_
        have ze : lf_X1_scaled_32 n k (fu + 1) m ex i = lf_X1_scaled_32 n k fu (m <<< ((1 : Int32).toInt64 &&& 63)) (ex - 1) (i + 1) := by
          rw [lf_X1_scaled_32, if_neg zc1, if_neg zc3]
        rw [ze]
        exact lp_X1_scaled_32 hp n k fu (m <<< ((1 : Int32).toInt64 &&& 63)) (ex - 1) (i + 1) (qm_up zc1 zh)
def f_X1_scaled (n : Int64) (k : Int32) : Int64 := if n = 0 then 0 else if 0 ≤ n then lf_X1_scaled_32 n k 53 n ((1075 - k).toInt64) 0 else lf_X1_scaled_32 n k 53 (-n) ((1075 - k).toInt64) 0
set_option maxRecDepth 4000 in
theorem mt_X1_scaled (hp : qq_H) (n : Int64) (k : Int32) : qq_Mt mX1_scaled [.long n, .int k] hp 0 0 (fun v hp' => v = some (.long (f_X1_scaled n k)) ∧ hp = hp') (fun _ _ => False) := by
  refine qq_met pn_X1 (Nat.le_of_ble_eq_true rfl) (Nat.le_of_ble_eq_true rfl) kc_X1_scaled ?_
  show qq_Go _ hp 0 0 0 [(0, .long n), (2, .int k)] [] _ _
  refine qq_lload_n dX1_scaled_0 rfl 0 rfl ?_
  refine qq_lconst (v := 0) dX1_scaled_1 (by decide) ?_
  refine qq_lc_ne (tgt := 8) dX1_scaled_2 dX1_scaled_3 (by decide) (fun zc1 => ?_) (fun zc1 => ?_)
  · refine qq_lload_n dX1_scaled_8 rfl 0 rfl ?_
    refine qq_lconst (v := 0) dX1_scaled_9 (by decide) ?_
    refine qq_lc_ge (tgt := 19) dX1_scaled_10 dX1_scaled_11 (by decide) (fun zc2 => ?_) (fun zc2 => ?_)
    · refine qq_lload_n dX1_scaled_19 rfl 0 rfl ?_
      refine qq_lstore_n (loc' := [(0, .long n), (2, .int k), (3, .long n)]) dX1_scaled_20 rfl [1, 2, 0] (Nat.le_of_ble_eq_true rfl) rfl ?_
      refine qq_sipush (v := 1075) dX1_scaled_21 (by decide) ?_
      refine qq_iload_n dX1_scaled_24 rfl 1 rfl ?_
      refine qq_isub dX1_scaled_25 ?_
      refine qq_i2l dX1_scaled_26 ?_
      refine qq_lstore (loc' := [(0, .long n), (2, .int k), (3, .long n), (5, .long ((1075 - k).toInt64))]) dX1_scaled_27 [1, 2, 3, 0] (Nat.le_of_ble_eq_true rfl) rfl ?_
      refine qq_iconst (v := 0) dX1_scaled_29 (by decide) ?_
      refine qq_istore (loc' := [(0, .long n), (2, .int k), (3, .long n), (5, .long ((1075 - k).toInt64)), (7, .int 0)]) dX1_scaled_30 [1, 2, 3, 4, 0] (Nat.le_of_ble_eq_true rfl) rfl ?_
      have ze : f_X1_scaled n k = lf_X1_scaled_32 n k 53 n ((1075 - k).toInt64) 0 := by
        rw [f_X1_scaled, if_neg zc1, if_pos zc2]
      rw [ze]
      exact lp_X1_scaled_32 hp n k 53 n ((1075 - k).toInt64) 0 (by decide)
    · refine qq_lload_n dX1_scaled_14 rfl 0 rfl ?_
      refine qq_lneg dX1_scaled_15 ?_
      refine qq_goto (tgt := 20) dX1_scaled_16 (by decide) ?_
      refine qq_lstore_n (loc' := [(0, .long n), (2, .int k), (3, .long (-n))]) dX1_scaled_20 rfl [1, 2, 0] (Nat.le_of_ble_eq_true rfl) rfl ?_
      refine qq_sipush (v := 1075) dX1_scaled_21 (by decide) ?_
      refine qq_iload_n dX1_scaled_24 rfl 1 rfl ?_
      refine qq_isub dX1_scaled_25 ?_
      refine qq_i2l dX1_scaled_26 ?_
      refine qq_lstore (loc' := [(0, .long n), (2, .int k), (3, .long (-n)), (5, .long ((1075 - k).toInt64))]) dX1_scaled_27 [1, 2, 3, 0] (Nat.le_of_ble_eq_true rfl) rfl ?_
      refine qq_iconst (v := 0) dX1_scaled_29 (by decide) ?_
      refine qq_istore (loc' := [(0, .long n), (2, .int k), (3, .long (-n)), (5, .long ((1075 - k).toInt64)), (7, .int 0)]) dX1_scaled_30 [1, 2, 3, 4, 0] (Nat.le_of_ble_eq_true rfl) rfl ?_
      have ze : f_X1_scaled n k = lf_X1_scaled_32 n k 53 (-n) ((1075 - k).toInt64) 0 := by
        rw [f_X1_scaled, if_neg zc1, if_neg zc2]
      rw [ze]
      exact lp_X1_scaled_32 hp n k 53 (-n) ((1075 - k).toInt64) 0 (by decide)
  · refine qq_lconst (v := 0) dX1_scaled_6 (by decide) ?_
    refine qq_lret dX1_scaled_7 rfl ⟨?_, rfl⟩
    rw [f_X1_scaled, if_pos zc1]
def f_X4_firstQ (how : Int32) : Int32 := if how = 2 then (-128) else if how = 3 then (-3) else (-160)
set_option maxRecDepth 4000 in
theorem mt_X4_firstQ (hp : qq_H) (how : Int32) : qq_Mt mX4_firstQ [.int how] hp 0 0 (fun v hp' => v = some (.int (f_X4_firstQ how)) ∧ hp = hp') (fun _ _ => False) := by
  refine qq_met pn_X4 (Nat.le_of_ble_eq_true rfl) (Nat.le_of_ble_eq_true rfl) kc_X4_firstQ ?_
  show qq_Go _ hp 0 0 0 [(0, .int how)] [] _ _
  refine qq_iload_n dX4_firstQ_0 rfl 0 rfl ?_
  by_cases zc1 : how = 2
  · refine qq_lookup (off := 27) (tgt := 28) dX4_firstQ_1 (by decide) (by rw [zc1]; decide) (by decide) ?_
    refine qq_bipush (v := (-128)) dX4_firstQ_28 (by decide) ?_
    refine qq_iret dX4_firstQ_30 rfl rfl ⟨?_, rfl⟩
    rw [f_X4_firstQ, if_pos zc1]
  · by_cases zc2 : how = 3
    · refine qq_lookup (off := 30) (tgt := 31) dX4_firstQ_1 (by decide) (by rw [zc2]; decide) (by decide) ?_
      refine qq_bipush (v := (-3)) dX4_firstQ_31 (by decide) ?_
      refine qq_iret dX4_firstQ_33 rfl rfl ⟨?_, rfl⟩
      rw [f_X4_firstQ, if_neg zc1, if_pos zc2]
    · refine qq_lookup (off := 33) (tgt := 34) dX4_firstQ_1 (by decide) ((lv_osw zc1 (by decide)).trans ((lv_osw zc2 (by decide)).trans rfl)) (by decide) ?_
      refine qq_sipush (v := (-160)) dX4_firstQ_34 (by decide) ?_
      refine qq_iret dX4_firstQ_37 rfl rfl ⟨?_, rfl⟩
      rw [f_X4_firstQ, if_neg zc1, if_neg zc2]
def f_X4_lastQ (how : Int32) : Int32 := if how = 2 then 144 else 160
set_option maxRecDepth 4000 in
theorem mt_X4_lastQ (hp : qq_H) (how : Int32) : qq_Mt mX4_lastQ [.int how] hp 0 0 (fun v hp' => v = some (.int (f_X4_lastQ how)) ∧ hp = hp') (fun _ _ => False) := by
  refine qq_met pn_X4 (Nat.le_of_ble_eq_true rfl) (Nat.le_of_ble_eq_true rfl) kc_X4_lastQ ?_
  show qq_Go _ hp 0 0 0 [(0, .int how)] [] _ _
  refine qq_iload_n dX4_lastQ_0 rfl 0 rfl ?_
  refine qq_iconst (v := 2) dX4_lastQ_1 (by decide) ?_
  refine qq_icmp_ne (tgt := 11) dX4_lastQ_2 (by decide) (fun zc1 => ?_) (fun zc1 => ?_)
  · refine qq_sipush (v := 160) dX4_lastQ_11 (by decide) ?_
    refine qq_iret dX4_lastQ_14 rfl rfl ⟨?_, rfl⟩
    rw [f_X4_lastQ, if_neg zc1]
  · refine qq_sipush (v := 144) dX4_lastQ_5 (by decide) ?_
    refine qq_goto (tgt := 14) dX4_lastQ_8 (by decide) ?_
    refine qq_iret dX4_lastQ_14 rfl rfl ⟨?_, rfl⟩
    rw [f_X4_lastQ, if_pos zc1]
def f_X4_has (how : Int32) (q : Int32) : Int32 := if q < (f_X4_firstQ how) then 0 else if (f_X4_lastQ how) < q then 0 else 1
theorem bz_X4_has (how : Int32) (q : Int32) : f_X4_has how q = 0 ∨ f_X4_has how q = 1 := by
  unfold f_X4_has
  exact (qq_i01 (Or.inl rfl) (qq_i01 (Or.inl rfl) (Or.inr rfl)))
set_option maxRecDepth 4000 in
theorem mt_X4_has (hp : qq_H) (how : Int32) (q : Int32) : qq_Mt mX4_has [.int how, .int q] hp 0 0 (fun v hp' => v = some (.int (f_X4_has how q)) ∧ hp = hp') (fun _ _ => False) := by
  refine qq_met pn_X4 (Nat.le_of_ble_eq_true rfl) (Nat.le_of_ble_eq_true rfl) kc_X4_has ?_
  show qq_Go _ hp 0 0 0 [(0, .int how), (1, .int q)] [] _ _
  refine qq_iload_n dX4_has_0 rfl 1 rfl ?_
  refine qq_iload_n dX4_has_1 rfl 0 rfl ?_
  refine qq_callS (bc := 0) (bs := 0) (mc := 0) (ms := 0) (as := [.int how]) (rest := [.int q]) dX4_has_2 (mt_X4_firstQ hp how) rfl kl_X4_13 ks_X4_firstQ ki_X4 kc_X4_firstQ kd_X4_firstQ rfl (by decide) (by decide) (Nat.le_of_ble_eq_true rfl) (fun v hp' hv _ _ => ?_) (fun E hp' h _ _ => h.elim)
  obtain ⟨rfl, rfl⟩ := hv
  show qq_Go _ hp 0 0 5 [(0, .int how), (1, .int q)] [.int (f_X4_firstQ how), .int q] _ _
  refine qq_icmp_lt (tgt := 20) dX4_has_5 (by decide) (fun zc1 => ?_) (fun zc1 => ?_)
  · refine qq_iconst (v := 0) dX4_has_20 (by decide) ?_
    refine qq_iret dX4_has_21 rfl rfl ⟨?_, rfl⟩
    rw [f_X4_has, if_pos zc1]
  · refine qq_iload_n dX4_has_8 rfl 1 rfl ?_
    refine qq_iload_n dX4_has_9 rfl 0 rfl ?_
    refine qq_callS (bc := 0) (bs := 0) (mc := 0) (ms := 0) (as := [.int how]) (rest := [.int q]) dX4_has_10 (mt_X4_lastQ hp how) rfl kl_X4_19 ks_X4_lastQ ki_X4 kc_X4_lastQ kd_X4_lastQ rfl (by decide) (by decide) (Nat.le_of_ble_eq_true rfl) (fun v hp' hv _ _ => ?_) (fun E hp' h _ _ => h.elim)
    obtain ⟨rfl, rfl⟩ := hv
    show qq_Go _ hp 0 0 13 [(0, .int how), (1, .int q)] [.int (f_X4_lastQ how), .int q] _ _
    refine qq_icmp_gt (tgt := 20) dX4_has_13 (by decide) (fun zc2 => ?_) (fun zc2 => ?_)
    · refine qq_iconst (v := 0) dX4_has_20 (by decide) ?_
      refine qq_iret dX4_has_21 rfl rfl ⟨?_, rfl⟩
      rw [f_X4_has, if_neg zc1, if_pos zc2]
    · refine qq_iconst (v := 1) dX4_has_16 (by decide) ?_
      refine qq_goto (tgt := 21) dX4_has_17 (by decide) ?_
      refine qq_iret dX4_has_21 rfl rfl ⟨?_, rfl⟩
      rw [f_X4_has, if_neg zc1, if_neg zc2]
def f_X0_powered (n : Int32) : Int32 := if (f_X2_kindOf n) = 0 then if (f_X2_qOf n) = 0 then f_X2_quarters 4 else f_X2_make 2 (f_X2_qOf n) else if (f_X2_kindOf n) = 1 then if (f_X2_isUnder n) = 0 then n else f_X2_nought 0 else (-1)
set_option maxRecDepth 4000 in
theorem mt_X0_powered (hp : qq_H) (n : Int32) : qq_Mt mX0_powered [.int n] hp 0 0 (fun v hp' => v = some (.int (f_X0_powered n)) ∧ hp = hp') (fun _ _ => False) := by
  refine qq_met pn_X0 (Nat.le_of_ble_eq_true rfl) (Nat.le_of_ble_eq_true rfl) kc_X0_powered ?_
  show qq_Go _ hp 0 0 0 [(0, .int n)] [] _ _
  refine qq_iload_n dX0_powered_0 rfl 0 rfl ?_
  refine qq_callS (bc := 0) (bs := 0) (mc := 0) (ms := 0) (as := [.int n]) (rest := []) dX0_powered_1 (mt_X2_qOf hp n) rfl kl_X0_21 ks_X2_qOf ki_X2 kc_X2_qOf kd_X2_qOf rfl (by decide) (by decide) (Nat.le_of_ble_eq_true rfl) (fun v hp' hv _ _ => ?_) (fun E hp' h _ _ => h.elim)
  obtain ⟨rfl, rfl⟩ := hv
  show qq_Go _ hp 0 0 4 [(0, .int n)] [.int (f_X2_qOf n)] _ _
  refine qq_istore_n (loc' := [(0, .int n), (1, .int (f_X2_qOf n))]) dX0_powered_4 rfl [1, 0] (Nat.le_of_ble_eq_true rfl) rfl ?_
  refine qq_iload_n dX0_powered_5 rfl 0 rfl ?_
  refine qq_callS (bc := 0) (bs := 0) (mc := 0) (ms := 0) (as := [.int n]) (rest := []) dX0_powered_6 (mt_X2_kindOf hp n) rfl kl_X0_24 ks_X2_kindOf ki_X2 kc_X2_kindOf kd_X2_kindOf rfl (by decide) (by decide) (Nat.le_of_ble_eq_true rfl) (fun v hp' hv _ _ => ?_) (fun E hp' h _ _ => h.elim)
  obtain ⟨rfl, rfl⟩ := hv
  show qq_Go _ hp 0 0 9 [(0, .int n), (1, .int (f_X2_qOf n))] [.int (f_X2_kindOf n)] _ _
  by_cases zc1 : (f_X2_kindOf n) = 0
  · refine qq_lookup (off := 27) (tgt := 36) dX0_powered_9 (by decide) (by rw [zc1]; decide) (by decide) ?_
    refine qq_iload_n dX0_powered_36 rfl 1 rfl ?_
    refine qq_if_ne (tgt := 47) dX0_powered_37 (by decide) (fun zc2 => ?_) (fun zc2 => ?_)
    · refine qq_iconst (v := 2) dX0_powered_47 (by decide) ?_
      refine qq_iload_n dX0_powered_48 rfl 1 rfl ?_
      refine qq_callS (bc := 0) (bs := 0) (mc := 0) (ms := 0) (as := [.int 2, .int (f_X2_qOf n)]) (rest := []) dX0_powered_49 (mt_X2_make hp 2 (f_X2_qOf n)) rfl kl_X0_30 ks_X2_make ki_X2 kc_X2_make kd_X2_make rfl (by decide) (by decide) (Nat.le_of_ble_eq_true rfl) (fun v hp' hv _ _ => ?_) (fun E hp' h _ _ => h.elim)
      obtain ⟨rfl, rfl⟩ := hv
      show qq_Go _ hp 0 0 52 [(0, .int n), (1, .int (f_X2_qOf n))] [.int (f_X2_make 2 (f_X2_qOf n))] _ _
      refine qq_iret dX0_powered_52 rfl rfl ⟨?_, rfl⟩
      rw [f_X0_powered, if_pos zc1, if_neg zc2]
    · refine qq_iconst (v := 4) dX0_powered_40 (by decide) ?_
      refine qq_callS (bc := 0) (bs := 0) (mc := 0) (ms := 0) (as := [.int 4]) (rest := []) dX0_powered_41 (mt_X2_quarters hp 4) rfl kl_X0_27 ks_X2_quarters ki_X2 kc_X2_quarters kd_X2_quarters rfl (by decide) (by decide) (Nat.le_of_ble_eq_true rfl) (fun v hp' hv _ _ => ?_) (fun E hp' h _ _ => h.elim)
      obtain ⟨rfl, rfl⟩ := hv
      show qq_Go _ hp 0 0 44 [(0, .int n), (1, .int (f_X2_qOf n))] [.int (f_X2_quarters 4)] _ _
      refine qq_goto (tgt := 52) dX0_powered_44 (by decide) ?_
      refine qq_iret dX0_powered_52 rfl rfl ⟨?_, rfl⟩
      rw [f_X0_powered, if_pos zc1, if_pos zc2]
  · by_cases zc3 : (f_X2_kindOf n) = 1
    · refine qq_lookup (off := 44) (tgt := 53) dX0_powered_9 (by decide) (by rw [zc3]; decide) (by decide) ?_
      refine qq_iload_n dX0_powered_53 rfl 0 rfl ?_
      refine qq_callS (bc := 0) (bs := 0) (mc := 0) (ms := 0) (as := [.int n]) (rest := []) dX0_powered_54 (mt_X2_isUnder hp n) rfl kl_X0_34 ks_X2_isUnder ki_X2 kc_X2_isUnder kd_X2_isUnder rfl (by decide) (by decide) (Nat.le_of_ble_eq_true rfl) (fun v hp' hv _ _ => ?_) (fun E hp' h _ _ => h.elim)
      obtain ⟨rfl, rfl⟩ := hv
      show qq_Go _ hp 0 0 57 [(0, .int n), (1, .int (f_X2_qOf n))] [.int (f_X2_isUnder n)] _ _
      refine qq_if_eq (tgt := 67) dX0_powered_57 (by decide) (fun zc4 => ?_) (fun zc4 => ?_)
      · refine qq_iload_n dX0_powered_67 rfl 0 rfl ?_
        refine qq_iret dX0_powered_68 rfl rfl ⟨?_, rfl⟩
        rw [f_X0_powered, if_neg zc1, if_pos zc3, if_pos zc4]
      · refine qq_iconst (v := 0) dX0_powered_60 (by decide) ?_
        refine qq_callS (bc := 0) (bs := 0) (mc := 0) (ms := 0) (as := [.int 0]) (rest := []) dX0_powered_61 (mt_X2_nought hp 0) rfl kl_X0_38 ks_X2_nought ki_X2 kc_X2_nought kd_X2_nought rfl (by decide) (by decide) (Nat.le_of_ble_eq_true rfl) (fun v hp' hv _ _ => ?_) (fun E hp' h _ _ => h.elim)
        obtain ⟨rfl, rfl⟩ := hv
        show qq_Go _ hp 0 0 64 [(0, .int n), (1, .int (f_X2_qOf n))] [.int (f_X2_nought 0)] _ _
        refine qq_goto (tgt := 68) dX0_powered_64 (by decide) ?_
        refine qq_iret dX0_powered_68 rfl rfl ⟨?_, rfl⟩
        rw [f_X0_powered, if_neg zc1, if_pos zc3, if_neg zc4]
    · refine qq_lookup (off := 60) (tgt := 69) dX0_powered_9 (by decide) ((lv_osw zc1 (by decide)).trans ((lv_osw zc3 (by decide)).trans rfl)) (by decide) ?_
      refine qq_iconst (v := (-1)) dX0_powered_69 (by decide) ?_
      refine qq_iret dX0_powered_70 rfl rfl ⟨?_, rfl⟩
      rw [f_X0_powered, if_neg zc1, if_neg zc3]
def f_X0_loggedQuarter (n : Int32) (q : Int32) : Int32 := if q = 0 then n else if q = (-4) then f_X2_withoutEnd 1 else if (f_X4_has 3 q) = 0 then (-1) else f_X2_make 4 q
set_option maxRecDepth 4000 in
theorem mt_X0_loggedQuarter (hp : qq_H) (n : Int32) (q : Int32) : qq_Mt mX0_loggedQuarter [.int n, .int q] hp 0 0 (fun v hp' => v = some (.int (f_X0_loggedQuarter n q)) ∧ hp = hp') (fun _ _ => False) := by
  refine qq_met pn_X0 (Nat.le_of_ble_eq_true rfl) (Nat.le_of_ble_eq_true rfl) kc_X0_loggedQuarter ?_
  show qq_Go _ hp 0 0 0 [(0, .int n), (1, .int q)] [] _ _
  refine qq_iload_n dX0_loggedQuarter_0 rfl 1 rfl ?_
  refine qq_if_ne (tgt := 6) dX0_loggedQuarter_1 (by decide) (fun zc1 => ?_) (fun zc1 => ?_)
  · refine qq_iload_n dX0_loggedQuarter_6 rfl 1 rfl ?_
    refine qq_bipush (v := (-4)) dX0_loggedQuarter_7 (by decide) ?_
    refine qq_icmp_ne (tgt := 17) dX0_loggedQuarter_9 (by decide) (fun zc2 => ?_) (fun zc2 => ?_)
    · refine qq_iconst (v := 3) dX0_loggedQuarter_17 (by decide) ?_
      refine qq_iload_n dX0_loggedQuarter_18 rfl 1 rfl ?_
      refine qq_callS (bc := 0) (bs := 0) (mc := 0) (ms := 0) (as := [.int 3, .int q]) (rest := []) dX0_loggedQuarter_19 (mt_X4_has hp 3 q) rfl kl_X0_42 ks_X4_has ki_X4 kc_X4_has kd_X4_has rfl (by decide) (by decide) (Nat.le_of_ble_eq_true rfl) (fun v hp' hv _ _ => ?_) (fun E hp' h _ _ => h.elim)
      obtain ⟨rfl, rfl⟩ := hv
      show qq_Go _ hp 0 0 22 [(0, .int n), (1, .int q)] [.int (f_X4_has 3 q)] _ _
      refine qq_if_eq (tgt := 33) dX0_loggedQuarter_22 (by decide) (fun zc3 => ?_) (fun zc3 => ?_)
      · refine qq_iconst (v := (-1)) dX0_loggedQuarter_33 (by decide) ?_
        refine qq_iret dX0_loggedQuarter_34 rfl rfl ⟨?_, rfl⟩
        rw [f_X0_loggedQuarter, if_neg zc1, if_neg zc2, if_pos zc3]
      · refine qq_iconst (v := 4) dX0_loggedQuarter_25 (by decide) ?_
        refine qq_iload_n dX0_loggedQuarter_26 rfl 1 rfl ?_
        refine qq_callS (bc := 0) (bs := 0) (mc := 0) (ms := 0) (as := [.int 4, .int q]) (rest := []) dX0_loggedQuarter_27 (mt_X2_make hp 4 q) rfl kl_X0_30 ks_X2_make ki_X2 kc_X2_make kd_X2_make rfl (by decide) (by decide) (Nat.le_of_ble_eq_true rfl) (fun v hp' hv _ _ => ?_) (fun E hp' h _ _ => h.elim)
        obtain ⟨rfl, rfl⟩ := hv
        show qq_Go _ hp 0 0 30 [(0, .int n), (1, .int q)] [.int (f_X2_make 4 q)] _ _
        refine qq_goto (tgt := 34) dX0_loggedQuarter_30 (by decide) ?_
        refine qq_iret dX0_loggedQuarter_34 rfl rfl ⟨?_, rfl⟩
        rw [f_X0_loggedQuarter, if_neg zc1, if_neg zc2, if_neg zc3]
    · refine qq_iconst (v := 1) dX0_loggedQuarter_12 (by decide) ?_
      refine qq_callS (bc := 0) (bs := 0) (mc := 0) (ms := 0) (as := [.int 1]) (rest := []) dX0_loggedQuarter_13 (mt_X2_withoutEnd hp 1) rfl kl_X0_51 ks_X2_withoutEnd ki_X2 kc_X2_withoutEnd kd_X2_withoutEnd rfl (by decide) (by decide) (Nat.le_of_ble_eq_true rfl) (fun v hp' hv _ _ => ?_) (fun E hp' h _ _ => h.elim)
      obtain ⟨rfl, rfl⟩ := hv
      show qq_Go _ hp 0 0 16 [(0, .int n), (1, .int q)] [.int (f_X2_withoutEnd 1)] _ _
      refine qq_iret dX0_loggedQuarter_16 rfl rfl ⟨?_, rfl⟩
      rw [f_X0_loggedQuarter, if_neg zc1, if_pos zc2]
  · refine qq_iload_n dX0_loggedQuarter_4 rfl 0 rfl ?_
    refine qq_iret dX0_loggedQuarter_5 rfl rfl ⟨?_, rfl⟩
    rw [f_X0_loggedQuarter, if_pos zc1]
def f_X0_lessened (n : Int32) : Int32 := if (f_X2_kindOf n) = 0 then if (f_X2_qOf n) = 0 then n else if (f_X4_has 2 (f_X2_qOf n)) = 0 then (-1) else f_X2_make 3 (f_X2_qOf n) else if (f_X2_kindOf n) = 1 then if (f_X2_isUnder n) = 0 then n else f_X2_quarters (-4) else if (f_X2_kindOf n) = 2 then (-1) else if (f_X2_kindOf n) = 3 then (-1) else if (f_X2_kindOf n) = 4 then f_X2_make 6 (f_X2_qOf n) else (-1)
set_option maxRecDepth 4000 in
theorem mt_X0_lessened (hp : qq_H) (n : Int32) : qq_Mt mX0_lessened [.int n] hp 0 0 (fun v hp' => v = some (.int (f_X0_lessened n)) ∧ hp = hp') (fun _ _ => False) := by
  refine qq_met pn_X0 (Nat.le_of_ble_eq_true rfl) (Nat.le_of_ble_eq_true rfl) kc_X0_lessened ?_
  show qq_Go _ hp 0 0 0 [(0, .int n)] [] _ _
  refine qq_iload_n dX0_lessened_0 rfl 0 rfl ?_
  refine qq_callS (bc := 0) (bs := 0) (mc := 0) (ms := 0) (as := [.int n]) (rest := []) dX0_lessened_1 (mt_X2_qOf hp n) rfl kl_X0_21 ks_X2_qOf ki_X2 kc_X2_qOf kd_X2_qOf rfl (by decide) (by decide) (Nat.le_of_ble_eq_true rfl) (fun v hp' hv _ _ => ?_) (fun E hp' h _ _ => h.elim)
  obtain ⟨rfl, rfl⟩ := hv
  show qq_Go _ hp 0 0 4 [(0, .int n)] [.int (f_X2_qOf n)] _ _
  refine qq_istore_n (loc' := [(0, .int n), (1, .int (f_X2_qOf n))]) dX0_lessened_4 rfl [1, 0] (Nat.le_of_ble_eq_true rfl) rfl ?_
  refine qq_iload_n dX0_lessened_5 rfl 0 rfl ?_
  refine qq_callS (bc := 0) (bs := 0) (mc := 0) (ms := 0) (as := [.int n]) (rest := []) dX0_lessened_6 (mt_X2_kindOf hp n) rfl kl_X0_24 ks_X2_kindOf ki_X2 kc_X2_kindOf kd_X2_kindOf rfl (by decide) (by decide) (Nat.le_of_ble_eq_true rfl) (fun v hp' hv _ _ => ?_) (fun E hp' h _ _ => h.elim)
  obtain ⟨rfl, rfl⟩ := hv
  show qq_Go _ hp 0 0 9 [(0, .int n), (1, .int (f_X2_qOf n))] [.int (f_X2_kindOf n)] _ _
  by_cases zc1 : (f_X2_kindOf n) = 0
  · refine qq_tabIn (off := 35) (tgt := 44) dX0_lessened_9 (by rw [zc1]; decide) (by rw [zc1]; decide) (by rw [zc1]; decide) (by decide) ?_
    refine qq_iload_n dX0_lessened_44 rfl 1 rfl ?_
    refine qq_if_ne (tgt := 50) dX0_lessened_45 (by decide) (fun zc2 => ?_) (fun zc2 => ?_)
    · refine qq_iconst (v := 2) dX0_lessened_50 (by decide) ?_
      refine qq_iload_n dX0_lessened_51 rfl 1 rfl ?_
      refine qq_callS (bc := 0) (bs := 0) (mc := 0) (ms := 0) (as := [.int 2, .int (f_X2_qOf n)]) (rest := []) dX0_lessened_52 (mt_X4_has hp 2 (f_X2_qOf n)) rfl kl_X0_42 ks_X4_has ki_X4 kc_X4_has kd_X4_has rfl (by decide) (by decide) (Nat.le_of_ble_eq_true rfl) (fun v hp' hv _ _ => ?_) (fun E hp' h _ _ => h.elim)
      obtain ⟨rfl, rfl⟩ := hv
      show qq_Go _ hp 0 0 55 [(0, .int n), (1, .int (f_X2_qOf n))] [.int (f_X4_has 2 (f_X2_qOf n))] _ _
      refine qq_if_eq (tgt := 66) dX0_lessened_55 (by decide) (fun zc3 => ?_) (fun zc3 => ?_)
      · refine qq_iconst (v := (-1)) dX0_lessened_66 (by decide) ?_
        refine qq_iret dX0_lessened_67 rfl rfl ⟨?_, rfl⟩
        rw [f_X0_lessened, if_pos zc1, if_neg zc2, if_pos zc3]
      · refine qq_iconst (v := 3) dX0_lessened_58 (by decide) ?_
        refine qq_iload_n dX0_lessened_59 rfl 1 rfl ?_
        refine qq_callS (bc := 0) (bs := 0) (mc := 0) (ms := 0) (as := [.int 3, .int (f_X2_qOf n)]) (rest := []) dX0_lessened_60 (mt_X2_make hp 3 (f_X2_qOf n)) rfl kl_X0_30 ks_X2_make ki_X2 kc_X2_make kd_X2_make rfl (by decide) (by decide) (Nat.le_of_ble_eq_true rfl) (fun v hp' hv _ _ => ?_) (fun E hp' h _ _ => h.elim)
        obtain ⟨rfl, rfl⟩ := hv
        show qq_Go _ hp 0 0 63 [(0, .int n), (1, .int (f_X2_qOf n))] [.int (f_X2_make 3 (f_X2_qOf n))] _ _
        refine qq_goto (tgt := 67) dX0_lessened_63 (by decide) ?_
        refine qq_iret dX0_lessened_67 rfl rfl ⟨?_, rfl⟩
        rw [f_X0_lessened, if_pos zc1, if_neg zc2, if_neg zc3]
    · refine qq_iload_n dX0_lessened_48 rfl 0 rfl ?_
      refine qq_iret dX0_lessened_49 rfl rfl ⟨?_, rfl⟩
      rw [f_X0_lessened, if_pos zc1, if_pos zc2]
  · by_cases zc4 : (f_X2_kindOf n) = 1
    · refine qq_tabIn (off := 59) (tgt := 68) dX0_lessened_9 (by rw [zc4]; decide) (by rw [zc4]; decide) (by rw [zc4]; decide) (by decide) ?_
      refine qq_iload_n dX0_lessened_68 rfl 0 rfl ?_
      refine qq_callS (bc := 0) (bs := 0) (mc := 0) (ms := 0) (as := [.int n]) (rest := []) dX0_lessened_69 (mt_X2_isUnder hp n) rfl kl_X0_34 ks_X2_isUnder ki_X2 kc_X2_isUnder kd_X2_isUnder rfl (by decide) (by decide) (Nat.le_of_ble_eq_true rfl) (fun v hp' hv _ _ => ?_) (fun E hp' h _ _ => h.elim)
      obtain ⟨rfl, rfl⟩ := hv
      show qq_Go _ hp 0 0 72 [(0, .int n), (1, .int (f_X2_qOf n))] [.int (f_X2_isUnder n)] _ _
      refine qq_if_eq (tgt := 83) dX0_lessened_72 (by decide) (fun zc5 => ?_) (fun zc5 => ?_)
      · refine qq_iload_n dX0_lessened_83 rfl 0 rfl ?_
        refine qq_iret dX0_lessened_84 rfl rfl ⟨?_, rfl⟩
        rw [f_X0_lessened, if_neg zc1, if_pos zc4, if_pos zc5]
      · refine qq_bipush (v := (-4)) dX0_lessened_75 (by decide) ?_
        refine qq_callS (bc := 0) (bs := 0) (mc := 0) (ms := 0) (as := [.int (-4)]) (rest := []) dX0_lessened_77 (mt_X2_quarters hp (-4)) rfl kl_X0_27 ks_X2_quarters ki_X2 kc_X2_quarters kd_X2_quarters rfl (by decide) (by decide) (Nat.le_of_ble_eq_true rfl) (fun v hp' hv _ _ => ?_) (fun E hp' h _ _ => h.elim)
        obtain ⟨rfl, rfl⟩ := hv
        show qq_Go _ hp 0 0 80 [(0, .int n), (1, .int (f_X2_qOf n))] [.int (f_X2_quarters (-4))] _ _
        refine qq_goto (tgt := 84) dX0_lessened_80 (by decide) ?_
        refine qq_iret dX0_lessened_84 rfl rfl ⟨?_, rfl⟩
        rw [f_X0_lessened, if_neg zc1, if_pos zc4, if_neg zc5]
    · by_cases zc6 : (f_X2_kindOf n) = 2
      · refine qq_tabIn (off := 83) (tgt := 92) dX0_lessened_9 (by rw [zc6]; decide) (by rw [zc6]; decide) (by rw [zc6]; decide) (by decide) ?_
        refine qq_iconst (v := (-1)) dX0_lessened_92 (by decide) ?_
        refine qq_iret dX0_lessened_93 rfl rfl ⟨?_, rfl⟩
        rw [f_X0_lessened, if_neg zc1, if_neg zc4, if_pos zc6]
      · by_cases zc7 : (f_X2_kindOf n) = 3
        · refine qq_tabIn (off := 83) (tgt := 92) dX0_lessened_9 (by rw [zc7]; decide) (by rw [zc7]; decide) (by rw [zc7]; decide) (by decide) ?_
          refine qq_iconst (v := (-1)) dX0_lessened_92 (by decide) ?_
          refine qq_iret dX0_lessened_93 rfl rfl ⟨?_, rfl⟩
          rw [f_X0_lessened, if_neg zc1, if_neg zc4, if_neg zc6, if_pos zc7]
        · by_cases zc8 : (f_X2_kindOf n) = 4
          · refine qq_tabIn (off := 76) (tgt := 85) dX0_lessened_9 (by rw [zc8]; decide) (by rw [zc8]; decide) (by rw [zc8]; decide) (by decide) ?_
            refine qq_bipush (v := 6) dX0_lessened_85 (by decide) ?_
            refine qq_iload_n dX0_lessened_87 rfl 1 rfl ?_
            refine qq_callS (bc := 0) (bs := 0) (mc := 0) (ms := 0) (as := [.int 6, .int (f_X2_qOf n)]) (rest := []) dX0_lessened_88 (mt_X2_make hp 6 (f_X2_qOf n)) rfl kl_X0_30 ks_X2_make ki_X2 kc_X2_make kd_X2_make rfl (by decide) (by decide) (Nat.le_of_ble_eq_true rfl) (fun v hp' hv _ _ => ?_) (fun E hp' h _ _ => h.elim)
            obtain ⟨rfl, rfl⟩ := hv
            show qq_Go _ hp 0 0 91 [(0, .int n), (1, .int (f_X2_qOf n))] [.int (f_X2_make 6 (f_X2_qOf n))] _ _
            refine qq_iret dX0_lessened_91 rfl rfl ⟨?_, rfl⟩
            rw [f_X0_lessened, if_neg zc1, if_neg zc4, if_neg zc6, if_neg zc7, if_pos zc8]
          · refine qq_tabOut (tgt := 92) dX0_lessened_9 (by have g0 : ¬ (f_X2_kindOf n).toInt = 0 := qm_toInt_ne zc1; have g1 : ¬ (f_X2_kindOf n).toInt = 1 := qm_toInt_ne zc4; have g2 : ¬ (f_X2_kindOf n).toInt = 2 := qm_toInt_ne zc6; have g3 : ¬ (f_X2_kindOf n).toInt = 3 := qm_toInt_ne zc7; have g4 : ¬ (f_X2_kindOf n).toInt = 4 := qm_toInt_ne zc8; omega) (by decide) ?_
            refine qq_iconst (v := (-1)) dX0_lessened_92 (by decide) ?_
            refine qq_iret dX0_lessened_93 rfl rfl ⟨?_, rfl⟩
            rw [f_X0_lessened, if_neg zc1, if_neg zc4, if_neg zc6, if_neg zc7, if_neg zc8]
def f_X0_logged (n : Int32) : Int32 := if (f_X2_kindOf n) = 0 then f_X0_loggedQuarter n (f_X2_qOf n) else if (f_X2_kindOf n) = 1 then if (f_X2_isUnder n) = 0 then n else (-1) else if (f_X2_kindOf n) = 2 then (-1) else if (f_X2_kindOf n) = 3 then if (f_X2_qOf n) ≤ (-5) then if (f_X2_qOf n) < (-32) then (-1) else f_X2_make 5 (f_X2_qOf n) else f_X2_quarters (f_X2_qOf n) else (-1)
set_option maxRecDepth 4000 in
theorem mt_X0_logged (hp : qq_H) (n : Int32) : qq_Mt mX0_logged [.int n] hp 0 0 (fun v hp' => v = some (.int (f_X0_logged n)) ∧ hp = hp') (fun _ _ => False) := by
  refine qq_met pn_X0 (Nat.le_of_ble_eq_true rfl) (Nat.le_of_ble_eq_true rfl) kc_X0_logged ?_
  show qq_Go _ hp 0 0 0 [(0, .int n)] [] _ _
  refine qq_iload_n dX0_logged_0 rfl 0 rfl ?_
  refine qq_callS (bc := 0) (bs := 0) (mc := 0) (ms := 0) (as := [.int n]) (rest := []) dX0_logged_1 (mt_X2_qOf hp n) rfl kl_X0_21 ks_X2_qOf ki_X2 kc_X2_qOf kd_X2_qOf rfl (by decide) (by decide) (Nat.le_of_ble_eq_true rfl) (fun v hp' hv _ _ => ?_) (fun E hp' h _ _ => h.elim)
  obtain ⟨rfl, rfl⟩ := hv
  show qq_Go _ hp 0 0 4 [(0, .int n)] [.int (f_X2_qOf n)] _ _
  refine qq_istore_n (loc' := [(0, .int n), (1, .int (f_X2_qOf n))]) dX0_logged_4 rfl [1, 0] (Nat.le_of_ble_eq_true rfl) rfl ?_
  refine qq_iload_n dX0_logged_5 rfl 0 rfl ?_
  refine qq_callS (bc := 0) (bs := 0) (mc := 0) (ms := 0) (as := [.int n]) (rest := []) dX0_logged_6 (mt_X2_kindOf hp n) rfl kl_X0_24 ks_X2_kindOf ki_X2 kc_X2_kindOf kd_X2_kindOf rfl (by decide) (by decide) (Nat.le_of_ble_eq_true rfl) (fun v hp' hv _ _ => ?_) (fun E hp' h _ _ => h.elim)
  obtain ⟨rfl, rfl⟩ := hv
  show qq_Go _ hp 0 0 9 [(0, .int n), (1, .int (f_X2_qOf n))] [.int (f_X2_kindOf n)] _ _
  by_cases zc1 : (f_X2_kindOf n) = 0
  · refine qq_tabIn (off := 31) (tgt := 40) dX0_logged_9 (by rw [zc1]; decide) (by rw [zc1]; decide) (by rw [zc1]; decide) (by decide) ?_
    refine qq_iload_n dX0_logged_40 rfl 0 rfl ?_
    refine qq_iload_n dX0_logged_41 rfl 1 rfl ?_
    refine qq_callS (bc := 0) (bs := 0) (mc := 0) (ms := 0) (as := [.int n, .int (f_X2_qOf n)]) (rest := []) dX0_logged_42 (mt_X0_loggedQuarter hp n (f_X2_qOf n)) rfl kl_X0_48 ks_X0_loggedQuarter ki_X0 kc_X0_loggedQuarter kd_X0_loggedQuarter rfl (by decide) (by decide) (Nat.le_of_ble_eq_true rfl) (fun v hp' hv _ _ => ?_) (fun E hp' h _ _ => h.elim)
    obtain ⟨rfl, rfl⟩ := hv
    show qq_Go _ hp 0 0 45 [(0, .int n), (1, .int (f_X2_qOf n))] [.int (f_X0_loggedQuarter n (f_X2_qOf n))] _ _
    refine qq_iret dX0_logged_45 rfl rfl ⟨?_, rfl⟩
    rw [f_X0_logged, if_pos zc1]
  · by_cases zc2 : (f_X2_kindOf n) = 1
    · refine qq_tabIn (off := 37) (tgt := 46) dX0_logged_9 (by rw [zc2]; decide) (by rw [zc2]; decide) (by rw [zc2]; decide) (by decide) ?_
      refine qq_iload_n dX0_logged_46 rfl 0 rfl ?_
      refine qq_callS (bc := 0) (bs := 0) (mc := 0) (ms := 0) (as := [.int n]) (rest := []) dX0_logged_47 (mt_X2_isUnder hp n) rfl kl_X0_34 ks_X2_isUnder ki_X2 kc_X2_isUnder kd_X2_isUnder rfl (by decide) (by decide) (Nat.le_of_ble_eq_true rfl) (fun v hp' hv _ _ => ?_) (fun E hp' h _ _ => h.elim)
      obtain ⟨rfl, rfl⟩ := hv
      show qq_Go _ hp 0 0 50 [(0, .int n), (1, .int (f_X2_qOf n))] [.int (f_X2_isUnder n)] _ _
      refine qq_if_eq (tgt := 57) dX0_logged_50 (by decide) (fun zc3 => ?_) (fun zc3 => ?_)
      · refine qq_iload_n dX0_logged_57 rfl 0 rfl ?_
        refine qq_iret dX0_logged_58 rfl rfl ⟨?_, rfl⟩
        rw [f_X0_logged, if_neg zc1, if_pos zc2, if_pos zc3]
      · refine qq_iconst (v := (-1)) dX0_logged_53 (by decide) ?_
        refine qq_goto (tgt := 58) dX0_logged_54 (by decide) ?_
        refine qq_iret dX0_logged_58 rfl rfl ⟨?_, rfl⟩
        rw [f_X0_logged, if_neg zc1, if_pos zc2, if_neg zc3]
    · by_cases zc4 : (f_X2_kindOf n) = 2
      · refine qq_tabIn (off := 77) (tgt := 86) dX0_logged_9 (by rw [zc4]; decide) (by rw [zc4]; decide) (by rw [zc4]; decide) (by decide) ?_
        refine qq_iconst (v := (-1)) dX0_logged_86 (by decide) ?_
        refine qq_iret dX0_logged_87 rfl rfl ⟨?_, rfl⟩
        rw [f_X0_logged, if_neg zc1, if_neg zc2, if_pos zc4]
      · by_cases zc5 : (f_X2_kindOf n) = 3
        · refine qq_tabIn (off := 50) (tgt := 59) dX0_logged_9 (by rw [zc5]; decide) (by rw [zc5]; decide) (by rw [zc5]; decide) (by decide) ?_
          refine qq_iload_n dX0_logged_59 rfl 1 rfl ?_
          refine qq_bipush (v := (-5)) dX0_logged_60 (by decide) ?_
          refine qq_icmp_le (tgt := 70) dX0_logged_62 (by decide) (fun zc6 => ?_) (fun zc6 => ?_)
          · refine qq_iload_n dX0_logged_70 rfl 1 rfl ?_
            refine qq_bipush (v := (-32)) dX0_logged_71 (by decide) ?_
            refine qq_icmp_lt (tgt := 84) dX0_logged_73 (by decide) (fun zc7 => ?_) (fun zc7 => ?_)
            · refine qq_iconst (v := (-1)) dX0_logged_84 (by decide) ?_
              refine qq_iret dX0_logged_85 rfl rfl ⟨?_, rfl⟩
              rw [f_X0_logged, if_neg zc1, if_neg zc2, if_neg zc4, if_pos zc5, if_pos zc6, if_pos zc7]
            · refine qq_iconst (v := 5) dX0_logged_76 (by decide) ?_
              refine qq_iload_n dX0_logged_77 rfl 1 rfl ?_
              refine qq_callS (bc := 0) (bs := 0) (mc := 0) (ms := 0) (as := [.int 5, .int (f_X2_qOf n)]) (rest := []) dX0_logged_78 (mt_X2_make hp 5 (f_X2_qOf n)) rfl kl_X0_30 ks_X2_make ki_X2 kc_X2_make kd_X2_make rfl (by decide) (by decide) (Nat.le_of_ble_eq_true rfl) (fun v hp' hv _ _ => ?_) (fun E hp' h _ _ => h.elim)
              obtain ⟨rfl, rfl⟩ := hv
              show qq_Go _ hp 0 0 81 [(0, .int n), (1, .int (f_X2_qOf n))] [.int (f_X2_make 5 (f_X2_qOf n))] _ _
              refine qq_goto (tgt := 85) dX0_logged_81 (by decide) ?_
              refine qq_iret dX0_logged_85 rfl rfl ⟨?_, rfl⟩
              rw [f_X0_logged, if_neg zc1, if_neg zc2, if_neg zc4, if_pos zc5, if_pos zc6, if_neg zc7]
          · refine qq_iload_n dX0_logged_65 rfl 1 rfl ?_
            refine qq_callS (bc := 0) (bs := 0) (mc := 0) (ms := 0) (as := [.int (f_X2_qOf n)]) (rest := []) dX0_logged_66 (mt_X2_quarters hp (f_X2_qOf n)) rfl kl_X0_27 ks_X2_quarters ki_X2 kc_X2_quarters kd_X2_quarters rfl (by decide) (by decide) (Nat.le_of_ble_eq_true rfl) (fun v hp' hv _ _ => ?_) (fun E hp' h _ _ => h.elim)
            obtain ⟨rfl, rfl⟩ := hv
            show qq_Go _ hp 0 0 69 [(0, .int n), (1, .int (f_X2_qOf n))] [.int (f_X2_quarters (f_X2_qOf n))] _ _
            refine qq_iret dX0_logged_69 rfl rfl ⟨?_, rfl⟩
            rw [f_X0_logged, if_neg zc1, if_neg zc2, if_neg zc4, if_pos zc5, if_neg zc6]
        · refine qq_tabOut (tgt := 86) dX0_logged_9 (by have g0 : ¬ (f_X2_kindOf n).toInt = 0 := qm_toInt_ne zc1; have g1 : ¬ (f_X2_kindOf n).toInt = 1 := qm_toInt_ne zc2; have g2 : ¬ (f_X2_kindOf n).toInt = 2 := qm_toInt_ne zc4; have g3 : ¬ (f_X2_kindOf n).toInt = 3 := qm_toInt_ne zc5; omega) (by decide) ?_
          refine qq_iconst (v := (-1)) dX0_logged_86 (by decide) ?_
          refine qq_iret dX0_logged_87 rfl rfl ⟨?_, rfl⟩
          rw [f_X0_logged, if_neg zc1, if_neg zc2, if_neg zc4, if_neg zc5]
def f_X0_change (how : Int32) (n : Int32) : Int32 := if how = 1 then f_X0_powered n else if how = 2 then f_X0_lessened n else if how = 3 then f_X0_logged n else (-1)
set_option maxRecDepth 4000 in
theorem mt_X0_change (hp : qq_H) (how : Int32) (n : Int32) : qq_Mt mX0_change [.int how, .int n] hp 0 0 (fun v hp' => v = some (.int (f_X0_change how n)) ∧ hp = hp') (fun _ _ => False) := by
  refine qq_met pn_X0 (Nat.le_of_ble_eq_true rfl) (Nat.le_of_ble_eq_true rfl) kc_X0_change ?_
  show qq_Go _ hp 0 0 0 [(0, .int how), (1, .int n)] [] _ _
  refine qq_iload_n dX0_change_0 rfl 0 rfl ?_
  by_cases zc1 : how = 1
  · refine qq_tabIn (off := 27) (tgt := 28) dX0_change_1 (by rw [zc1]; decide) (by rw [zc1]; decide) (by rw [zc1]; decide) (by decide) ?_
    refine qq_iload_n dX0_change_28 rfl 1 rfl ?_
    refine qq_callS (bc := 0) (bs := 0) (mc := 0) (ms := 0) (as := [.int n]) (rest := []) dX0_change_29 (mt_X0_powered hp n) rfl kl_X0_7 ks_X0_powered ki_X0 kc_X0_powered kd_X0_powered rfl (by decide) (by decide) (Nat.le_of_ble_eq_true rfl) (fun v hp' hv _ _ => ?_) (fun E hp' h _ _ => h.elim)
    obtain ⟨rfl, rfl⟩ := hv
    show qq_Go _ hp 0 0 32 [(0, .int how), (1, .int n)] [.int (f_X0_powered n)] _ _
    refine qq_iret dX0_change_32 rfl rfl ⟨?_, rfl⟩
    rw [f_X0_change, if_pos zc1]
  · by_cases zc2 : how = 2
    · refine qq_tabIn (off := 32) (tgt := 33) dX0_change_1 (by rw [zc2]; decide) (by rw [zc2]; decide) (by rw [zc2]; decide) (by decide) ?_
      refine qq_iload_n dX0_change_33 rfl 1 rfl ?_
      refine qq_callS (bc := 0) (bs := 0) (mc := 0) (ms := 0) (as := [.int n]) (rest := []) dX0_change_34 (mt_X0_lessened hp n) rfl kl_X0_13 ks_X0_lessened ki_X0 kc_X0_lessened kd_X0_lessened rfl (by decide) (by decide) (Nat.le_of_ble_eq_true rfl) (fun v hp' hv _ _ => ?_) (fun E hp' h _ _ => h.elim)
      obtain ⟨rfl, rfl⟩ := hv
      show qq_Go _ hp 0 0 37 [(0, .int how), (1, .int n)] [.int (f_X0_lessened n)] _ _
      refine qq_iret dX0_change_37 rfl rfl ⟨?_, rfl⟩
      rw [f_X0_change, if_neg zc1, if_pos zc2]
    · by_cases zc3 : how = 3
      · refine qq_tabIn (off := 37) (tgt := 38) dX0_change_1 (by rw [zc3]; decide) (by rw [zc3]; decide) (by rw [zc3]; decide) (by decide) ?_
        refine qq_iload_n dX0_change_38 rfl 1 rfl ?_
        refine qq_callS (bc := 0) (bs := 0) (mc := 0) (ms := 0) (as := [.int n]) (rest := []) dX0_change_39 (mt_X0_logged hp n) rfl kl_X0_16 ks_X0_logged ki_X0 kc_X0_logged kd_X0_logged rfl (by decide) (by decide) (Nat.le_of_ble_eq_true rfl) (fun v hp' hv _ _ => ?_) (fun E hp' h _ _ => h.elim)
        obtain ⟨rfl, rfl⟩ := hv
        show qq_Go _ hp 0 0 42 [(0, .int how), (1, .int n)] [.int (f_X0_logged n)] _ _
        refine qq_iret dX0_change_42 rfl rfl ⟨?_, rfl⟩
        rw [f_X0_change, if_neg zc1, if_neg zc2, if_pos zc3]
      · refine qq_tabOut (tgt := 43) dX0_change_1 (by have g0 : ¬ how.toInt = 1 := qm_toInt_ne zc1; have g1 : ¬ how.toInt = 2 := qm_toInt_ne zc2; have g2 : ¬ how.toInt = 3 := qm_toInt_ne zc3; omega) (by decide) ?_
        refine qq_iconst (v := (-1)) dX0_change_43 (by decide) ?_
        refine qq_iret dX0_change_44 rfl rfl ⟨?_, rfl⟩
        rw [f_X0_change, if_neg zc1, if_neg zc2, if_neg zc3]
