/-! heaps: a cell put, a cell made -/
def qq_pt (H : qq_H) (r : Nat) (c : qq_C) : qq_H := (H.1, va_up H.2 r c)
def qq_nw (H : qq_H) (c : qq_C) : qq_H := (H.1 + 1, va_up H.2 H.1 c)
theorem qq_pt1 (H : qq_H) (r : Nat) (c : qq_C) : (qq_pt H r c).1 = H.1 := rfl
theorem qq_nw1 (H : qq_H) (c : qq_C) : (qq_nw H c).1 = H.1 + 1 := rfl
theorem qq_hp {M : qq_M} {hp1 hp2 : qq_H} {bc bs pc : Nat} {loc : List (Nat × Value)} {stk : List Value} {P : Option Value → qq_H → Prop} {PX : String → qq_H → Prop} (e : hp1 = hp2) (k : qq_Go M hp2 bc bs pc loc stk P PX) : qq_Go M hp1 bc bs pc loc stk P PX := e ▸ k
theorem qq_pts {H : qq_H} {r : Nat} {c : qq_C} : (qq_pt H r c).2 r = c := if_pos rfl
theorem qq_pto {H : qq_H} {q r : Nat} {c c' : qq_C} (h : q ≠ r) (e : H.2 q = c') : (qq_pt H r c).2 q = c' := (if_neg h).trans e
theorem qq_nws {H : qq_H} {c : qq_C} : (qq_nw H c).2 H.1 = c := if_pos rfl
theorem qq_nwo {H : qq_H} {q : Nat} {c c' : qq_C} (h : q < H.1) (e : H.2 q = c') : (qq_nw H c).2 q = c' := (if_neg (Nat.ne_of_lt h)).trans e
theorem qq_pti {H : qq_H} {r : Nat} {c : qq_C} (e : H.2 r = c) : H = qq_pt H r c := by
  refine Prod.ext rfl ?_
  funext k
  show H.2 k = va_up H.2 r c k
  simp only [va_up]
  by_cases h : k = r
  · rw [if_pos h, h, e]
  · rw [if_neg h]
theorem qq_ptt {H : qq_H} {r : Nat} {a b : qq_C} : qq_pt (qq_pt H r a) r b = qq_pt H r b := by
  refine Prod.ext rfl ?_
  funext k
  show va_up (va_up H.2 r a) r b k = va_up H.2 r b k
  simp only [va_up]
  by_cases h : k = r
  · rw [if_pos h, if_pos h]
  · rw [if_neg h, if_neg h, if_neg h]
theorem qq_pto2 {H : qq_H} {q r : Nat} {a b : qq_C} (h : q ≠ r) : qq_pt (qq_pt H r a) q b = qq_pt (qq_pt H q b) r a := by
  refine Prod.ext rfl ?_
  funext k
  show va_up (va_up H.2 r a) q b k = va_up (va_up H.2 q b) r a k
  simp only [va_up]
  by_cases h1 : k = r
  · rw [if_pos h1, if_neg (fun e => h (e.symm.trans h1))]
    rw [if_pos h1]
  · rw [if_neg h1, if_neg h1]
theorem qq_pnw {H : qq_H} {a b : qq_C} : qq_pt (qq_nw H a) H.1 b = qq_nw H b := by
  refine Prod.ext rfl ?_
  funext k
  show va_up (va_up H.2 H.1 a) H.1 b k = va_up H.2 H.1 b k
  simp only [va_up]
  by_cases h : k = H.1
  · rw [if_pos h, if_pos h]
  · rw [if_neg h, if_neg h, if_neg h]
theorem qq_pno {H : qq_H} {q : Nat} {a b : qq_C} (h : q < H.1) : qq_pt (qq_nw H a) q b = qq_nw (qq_pt H q b) a := by
  refine Prod.ext rfl ?_
  funext k
  show va_up (va_up H.2 H.1 a) q b k = va_up (va_up H.2 q b) H.1 a k
  simp only [va_up]
  by_cases h1 : k = H.1
  · rw [if_pos h1, if_neg (by omega), if_pos h1]
  · rw [if_neg h1, if_neg h1]
/-! counters of rows -/
theorem qm_in11 {i : Int32} (h0 : ¬ i < 0) (h1 : ¬ 11 ≤ i) : vp_in i 11 := qm_in (n := 11) h0 h1 (by decide)
theorem qm_in22 {i : Int32} (h0 : ¬ i < 0) (h1 : ¬ 22 ≤ i) : vp_in i 22 := qm_in (n := 22) h0 h1 (by decide)
theorem qm_t11 {i : Int32} (h : ¬ i < 0) : ((11 : Int32).toInt - i.toInt).toNat < 12 := by
  rw [Int32.lt_iff_toInt_lt] at h
  have e0 : (0 : Int32).toInt = 0 := rfl
  have e8 : (11 : Int32).toInt = 11 := rfl
  omega
theorem qm_decI {i : Int32} (c : ¬ i < 0) : (i + -1).toInt = i.toInt - 1 := by
  rw [Int32.lt_iff_toInt_lt] at c
  have e0 : (0 : Int32).toInt = 0 := rfl
  have h3 := Int32.toInt_lt i
  rw [qm_m1, Int32.toInt_sub]
  show (i.toInt - 1).bmod _ = _
  rw [Int.bmod_eq_of_le (by omega) (by omega)]
theorem qm_ind {i : Int32} {n : Nat} (c : ¬ i < 0) (h : i.toInt < n) : vp_in i n := by
  rw [vp_in_iff]
  rw [Int32.lt_iff_toInt_lt] at c
  have e0 : (0 : Int32).toInt = 0 := rfl
  omega
theorem qm_dnI {i : Int32} {fu : Nat} (c : ¬ i < 0) (h : (i.toInt + 1).toNat < fu + 1) : ((i + -1).toInt + 1).toNat < fu := by
  rw [qm_decI c]
  rw [Int32.lt_iff_toInt_lt] at c
  have e0 : (0 : Int32).toInt = 0 := rfl
  omega
theorem qm_dnU {i : Int32} {n : Int} (c : ¬ i < 0) (h : i.toInt < n) : (i + -1).toInt < n := by
  rw [qm_decI c]
  omega
theorem qm_in11e {i : Int32} (c : ¬ i ≤ 0) (h : vp_in i 11) : vp_in (i + -1) 11 := by
  rw [qm_m1]
  rw [vp_in_iff] at h ⊢
  have e := qm_dec c
  rw [Int32.le_iff_toInt_le] at c
  have e0 : (0 : Int32).toInt = 0 := rfl
  omega
theorem qm_pl {p : Int32} (h : ¬ 352 ≤ p) : ¬ 11 ≤ p / 32 := by
  rw [Int32.le_iff_toInt_le] at h ⊢
  have e1 : (352 : Int32).toInt = 352 := rfl
  have e2 : (11 : Int32).toInt = 11 := rfl
  have e3 : (32 : Int32).toInt = 32 := rfl
  have h1 := Int32.le_toInt p
  rw [Int32.toInt_div, e3]
  have h2 : p.toInt.tdiv 32 ≤ 10 := by
    by_cases hp : 0 ≤ p.toInt
    · rw [Int.tdiv_eq_ediv_of_nonneg hp]
      omega
    · have : p.toInt.tdiv 32 ≤ 0 := by
        have h3 := Int.neg_tdiv p.toInt 32
        have h4 : 0 ≤ (-p.toInt).tdiv 32 := by
          rw [Int.tdiv_eq_ediv_of_nonneg (by omega)]
          omega
        omega
      omega
  have h5 : -67108864 ≤ p.toInt.tdiv 32 := by
    by_cases hp : 0 ≤ p.toInt
    · rw [Int.tdiv_eq_ediv_of_nonneg hp]
      omega
    · have h3 := Int.neg_tdiv p.toInt 32
      have h4 : (-p.toInt).tdiv 32 ≤ 67108864 := by
        rw [Int.tdiv_eq_ediv_of_nonneg (by omega)]
        omega
      omega
  rw [Int.bmod_eq_of_le (by omega) (by omega)]
  omega
theorem qm_iadd {a b : Int32} (h1 : 0 ≤ a.toInt) (h2 : a.toInt ≤ 100000) (h3 : 0 ≤ b.toInt) (h4 : b.toInt ≤ 100000) : (a + b).toInt = a.toInt + b.toInt := by
  rw [Int32.toInt_add, Int.bmod_eq_of_le (by omega) (by omega)]
theorem qm_z {a : Int32} (h : ¬ a < 0) : 0 ≤ a.toInt := by
  rw [Int32.lt_iff_toInt_lt] at h
  have e0 : (0 : Int32).toInt = 0 := rfl
  omega
theorem qm_lt {a N : Int32} (h : ¬ N ≤ a) : a.toInt < N.toInt := by
  rw [Int32.le_iff_toInt_le] at h
  omega
theorem qm_in22s {i k : Int32} (a : ¬ i < 0) (b : ¬ 11 ≤ i) (c : ¬ k < 0) (d : ¬ 11 ≤ k) : vp_in (i + k) 22 := by
  rw [vp_in_iff]
  have a := qm_z a
  have b := qm_lt b
  have c := qm_z c
  have d := qm_lt d
  have e : (11 : Int32).toInt = 11 := rfl
  rw [qm_iadd a (by omega) c (by omega)]
  omega
theorem qm_in22e {i : Int32} (a : ¬ i < 0) (b : ¬ 11 ≤ i) : vp_in (i + 11) 22 := by
  rw [vp_in_iff]
  have a := qm_z a
  have b := qm_lt b
  have e : (11 : Int32).toInt = 11 := rfl
  rw [qm_iadd a (by omega) (by decide) (by decide)]
  omega
theorem qm_in22f {i : Int32} (a : ¬ i < 0) (b : ¬ 11 ≤ i) : vp_in (i + 8) 22 := by
  rw [vp_in_iff]
  have a := qm_z a
  have b := qm_lt b
  have e : (11 : Int32).toInt = 11 := rfl
  have e8 : (8 : Int32).toInt = 8 := rfl
  rw [qm_iadd a (by omega) (by decide) (by decide)]
  omega
theorem qm_pl0 {p : Int32} (h : 0 ≤ p.toInt) : ¬ p / 32 < 0 := by
  rw [Int32.lt_iff_toInt_lt]
  have e0 : (0 : Int32).toInt = 0 := rfl
  have e3 : (32 : Int32).toInt = 32 := rfl
  have h1 := Int32.toInt_lt p
  rw [Int32.toInt_div, e3, Int.tdiv_eq_ediv_of_nonneg h, Int.bmod_eq_of_le (by omega) (by omega)]
  omega
theorem qm_plk {p k : Int32} (h0 : 0 ≤ p.toInt) (h1 : p.toInt ≤ 1000) (c : ¬ k < 0) (u : k.toInt < (32 : Nat)) : ¬ (p + k) / 32 < 0 := by
  have c := qm_z c
  have e := qm_iadd h0 (by omega) c (by omega)
  exact qm_pl0 (by omega)
theorem qm_pl31 {p : Int32} (h0 : 0 ≤ p.toInt) (h1 : p.toInt ≤ 1000) : 0 ≤ (p + 31).toInt := by
  have e : (31 : Int32).toInt = 31 := rfl
  rw [qm_iadd h0 (by omega) (by decide) (by decide)]
  omega
theorem qm_352 {p : Int32} (h0 : 0 ≤ p.toInt) : ((352 : Int32).toInt - p.toInt).toNat < 353 := by
  have e : (352 : Int32).toInt = 352 := rfl
  omega
theorem qm_pl1 {p : Int32} (h0 : 0 ≤ p.toInt) (c : ¬ 352 ≤ p) : 0 ≤ (p + 1).toInt := by
  rw [qm_inc c]
  omega

def lr_X7_divide_6 (by9 : Int32) (g : (Nat → Int32)) : Nat → Int64 → Int32 → (Nat → Int32) → (Nat → Int32)
  | 0, _, _, f1 => f1
  | fu + 1, lf9, k9, f1 => if k9 < 0 then f1 else lr_X7_divide_6 by9 g fu (((lf9 <<< ((32 : Int32).toInt64 &&& 63)) ||| (((g k9.toNatClampNeg).toInt64) &&& 4294967295)) - ((lf9 <<< ((32 : Int32).toInt64 &&& 63)) ||| (((g k9.toNatClampNeg).toInt64) &&& 4294967295)) / by9.toInt64 * by9.toInt64) (k9 + (-1)) (upd f1 k9.toNatClampNeg ((((lf9 <<< ((32 : Int32).toInt64 &&& 63)) ||| (((g k9.toNatClampNeg).toInt64) &&& 4294967295)) / by9.toInt64).toInt32))
set_option maxRecDepth 4000 in
theorem lq_X7_divide_6 (hp : qq_H) (by9 : Int32) (r1 : Nat) (r2 : Nat) (g : (Nat → Int32)) (f : (Nat → Int32)) (hr1 : hp.2 r1 = .inl (0, 11, .inl g)) (hr2 : hp.2 r2 = .inl (0, 11, .inl f)) (hg2 : 80 ≤ r2) (hne : r1 ≠ r2) (zdz : ¬ by9.toInt64 = 0) : ∀ (fu : Nat) (lf9 : Int64) (k9 : Int32) (f1 : (Nat → Int32)), k9.toInt < (11 : Nat) → (k9.toInt + 1).toNat < fu → qq_Go mX7_divide (qq_pt hp r2 (.inl (0, 11, .inl f1))) 0 0 6 [(0, .ref r1), (1, .int by9), (2, .ref r2), (3, .long lf9), (5, .int k9)] [] (fun v hp' => v = none ∧ (qq_pt hp r2 (.inl (0, 11, .inl (lr_X7_divide_6 by9 g fu lf9 k9 f1)))) = hp') (fun _ _ => False)
  | 0, _, _, _, _, zz => absurd zz (Nat.not_lt_zero _)
  | fu + 1, lf9, k9, f1, zu, zh => by
    refine qq_iload dX7_divide_6 4 rfl ?_
    refine qq_if_lt (tgt := 46) dX7_divide_8 (by decide) (fun zc1 => ?_) (fun zc1 => ?_)
    · have ze : lr_X7_divide_6 by9 g (fu + 1) lf9 k9 f1 = f1 := by
        rw [lr_X7_divide_6, if_pos zc1]
      exact qq_vret dX7_divide_46 rfl ⟨rfl, by rw [ze]⟩
    · refine qq_lload_n dX7_divide_11 rfl 3 rfl ?_
      refine qq_bipush (v := 32) dX7_divide_12 (by decide) ?_
      refine qq_lshl dX7_divide_14 ?_
      refine qq_aload_n dX7_divide_15 rfl 0 rfl ?_
      refine qq_iload dX7_divide_16 4 rfl ?_
      refine qq_iald dX7_divide_18 (qq_pto hne hr1) (qm_ind (by assumption) zu) ?_
      show qq_Go _ (qq_pt hp r2 (.inl (0, 11, .inl f1))) 0 0 19 [(0, .ref r1), (1, .int by9), (2, .ref r2), (3, .long lf9), (5, .int k9)] [.int (g k9.toNatClampNeg), .long (lf9 <<< ((32 : Int32).toInt64 &&& 63))] _ _
      refine qq_i2l dX7_divide_19 ?_
      refine qq_ldc2 (v := 4294967295) dX7_divide_20 kl_X7_54 ?_
      refine qq_land dX7_divide_23 ?_
      refine qq_lor dX7_divide_24 ?_
      refine qq_lstore_n (loc' := [(0, .ref r1), (1, .int by9), (2, .ref r2), (3, .long ((lf9 <<< ((32 : Int32).toInt64 &&& 63)) ||| (((g k9.toNatClampNeg).toInt64) &&& 4294967295))), (5, .int k9)]) dX7_divide_25 rfl [1, 2, 3, 0, 4] (Nat.le_of_ble_eq_true rfl) rfl ?_
      refine qq_aload_n dX7_divide_26 rfl 2 rfl ?_
      refine qq_iload dX7_divide_27 4 rfl ?_
      refine qq_lload_n dX7_divide_29 rfl 3 rfl ?_
      refine qq_iload_n dX7_divide_30 rfl 1 rfl ?_
      refine qq_i2l dX7_divide_31 ?_
      refine qq_ldiv dX7_divide_32 zdz ?_
      refine qq_l2i dX7_divide_33 ?_
      refine qq_iast dX7_divide_34 (qq_pts) hg2 (qm_ind (by assumption) zu) ?_
      refine qq_hp qq_ptt ?_
      show qq_Go _ (qq_pt hp r2 (.inl (0, 11, .inl (upd f1 k9.toNatClampNeg ((((lf9 <<< ((32 : Int32).toInt64 &&& 63)) ||| (((g k9.toNatClampNeg).toInt64) &&& 4294967295)) / by9.toInt64).toInt32))))) 0 0 35 [(0, .ref r1), (1, .int by9), (2, .ref r2), (3, .long ((lf9 <<< ((32 : Int32).toInt64 &&& 63)) ||| (((g k9.toNatClampNeg).toInt64) &&& 4294967295))), (5, .int k9)] [] _ _
      refine qq_lload_n dX7_divide_35 rfl 3 rfl ?_
      refine qq_iload_n dX7_divide_36 rfl 1 rfl ?_
      refine qq_i2l dX7_divide_37 ?_
      refine qq_lrem dX7_divide_38 zdz ?_
      refine qq_lstore_n (loc' := [(0, .ref r1), (1, .int by9), (2, .ref r2), (3, .long (((lf9 <<< ((32 : Int32).toInt64 &&& 63)) ||| (((g k9.toNatClampNeg).toInt64) &&& 4294967295)) - ((lf9 <<< ((32 : Int32).toInt64 &&& 63)) ||| (((g k9.toNatClampNeg).toInt64) &&& 4294967295)) / by9.toInt64 * by9.toInt64)), (5, .int k9)]) dX7_divide_39 rfl [1, 2, 3, 0, 4] (Nat.le_of_ble_eq_true rfl) rfl ?_
      refine qq_iinc (v := k9 + (-1)) (loc' := [(0, .ref r1), (1, .int by9), (2, .ref r2), (3, .long (((lf9 <<< ((32 : Int32).toInt64 &&& 63)) ||| (((g k9.toNatClampNeg).toInt64) &&& 4294967295)) - ((lf9 <<< ((32 : Int32).toInt64 &&& 63)) ||| (((g k9.toNatClampNeg).toInt64) &&& 4294967295)) / by9.toInt64 * by9.toInt64)), (5, .int (k9 + (-1)))]) dX7_divide_40 4 rfl rfl [1, 2, 3, 4, 0] (Nat.le_of_ble_eq_true rfl) rfl ?_
      refine qq_goto (tgt := 6) dX7_divide_43 (by decide) ?_
      have ze : lr_X7_divide_6 by9 g (fu + 1) lf9 k9 f1 = lr_X7_divide_6 by9 g fu (((lf9 <<< ((32 : Int32).toInt64 &&& 63)) ||| (((g k9.toNatClampNeg).toInt64) &&& 4294967295)) - ((lf9 <<< ((32 : Int32).toInt64 &&& 63)) ||| (((g k9.toNatClampNeg).toInt64) &&& 4294967295)) / by9.toInt64 * by9.toInt64) (k9 + (-1)) (upd f1 k9.toNatClampNeg ((((lf9 <<< ((32 : Int32).toInt64 &&& 63)) ||| (((g k9.toNatClampNeg).toInt64) &&& 4294967295)) / by9.toInt64).toInt32)) := by
        rw [lr_X7_divide_6, if_neg zc1]
      rw [ze]
      exact lq_X7_divide_6 hp by9 r1 r2 g f hr1 hr2 hg2 hne zdz fu (((lf9 <<< ((32 : Int32).toInt64 &&& 63)) ||| (((g k9.toNatClampNeg).toInt64) &&& 4294967295)) - ((lf9 <<< ((32 : Int32).toInt64 &&& 63)) ||| (((g k9.toNatClampNeg).toInt64) &&& 4294967295)) / by9.toInt64 * by9.toInt64) (k9 + (-1)) (upd f1 k9.toNatClampNeg ((((lf9 <<< ((32 : Int32).toInt64 &&& 63)) ||| (((g k9.toNatClampNeg).toInt64) &&& 4294967295)) / by9.toInt64).toInt32)) (qm_dnU (by assumption) zu) (qm_dnI (by assumption) zh)
def r_X7_divide (by9 : Int32) (g : (Nat → Int32)) (f : (Nat → Int32)) : (Nat → Int32) := lr_X7_divide_6 by9 g 12 (0 : Int64) (10 : Int32) f
set_option maxRecDepth 4000 in
theorem mt_X7_divide (hp : qq_H) (by9 : Int32) (r1 : Nat) (r2 : Nat) (g : (Nat → Int32)) (f : (Nat → Int32)) (hr1 : hp.2 r1 = .inl (0, 11, .inl g)) (hr2 : hp.2 r2 = .inl (0, 11, .inl f)) (hg2 : 80 ≤ r2) (hne : r1 ≠ r2) (zdz : ¬ by9.toInt64 = 0) : qq_Mt mX7_divide [.ref r1, .int by9, .ref r2] hp 0 0 (fun v hp' => v = none ∧ (qq_pt hp r2 (.inl (0, 11, .inl (r_X7_divide by9 g f)))) = hp') (fun _ _ => False) := by
  refine qq_met pn_X7 (Nat.le_of_ble_eq_true rfl) (Nat.le_of_ble_eq_true rfl) kc_X7_divide ?_
  show qq_Go _ hp 0 0 0 [(0, .ref r1), (1, .int by9), (2, .ref r2)] [] _ _
  refine qq_hp (qq_pti hr2) ?_
  refine qq_lconst (v := 0) dX7_divide_0 (by decide) ?_
  refine qq_lstore_n (loc' := [(0, .ref r1), (1, .int by9), (2, .ref r2), (3, .long 0)]) dX7_divide_1 rfl [1, 2, 3, 0] (Nat.le_of_ble_eq_true rfl) rfl ?_
  refine qq_bipush (v := 10) dX7_divide_2 (by decide) ?_
  refine qq_istore (loc' := [(0, .ref r1), (1, .int by9), (2, .ref r2), (3, .long 0), (5, .int 10)]) dX7_divide_4 [1, 2, 3, 4, 0] (Nat.le_of_ble_eq_true rfl) rfl ?_
  have ze : r_X7_divide by9 g f = lr_X7_divide_6 by9 g 12 (0 : Int64) (10 : Int32) f := by
    rw [r_X7_divide]
  rw [ze]
  exact lq_X7_divide_6 hp by9 r1 r2 g f hr1 hr2 hg2 hne zdz 12 (0 : Int64) (10 : Int32) f (by decide) (by decide)
def lr_X7_divideA_6 (by9 : Int32)  : Nat → Int64 → Int32 → (Nat → Int32) → (Nat → Int32)
  | 0, _, _, f1 => f1
  | fu + 1, lf9, k9, f1 => if k9 < 0 then f1 else lr_X7_divideA_6 by9 fu (((lf9 <<< ((32 : Int32).toInt64 &&& 63)) ||| (((f1 k9.toNatClampNeg).toInt64) &&& 4294967295)) - ((lf9 <<< ((32 : Int32).toInt64 &&& 63)) ||| (((f1 k9.toNatClampNeg).toInt64) &&& 4294967295)) / by9.toInt64 * by9.toInt64) (k9 + (-1)) (upd f1 k9.toNatClampNeg ((((lf9 <<< ((32 : Int32).toInt64 &&& 63)) ||| (((f1 k9.toNatClampNeg).toInt64) &&& 4294967295)) / by9.toInt64).toInt32))
set_option maxRecDepth 4000 in
theorem lq_X7_divideA_6 (hp : qq_H) (by9 : Int32) (r1 : Nat) (f : (Nat → Int32)) (hr1 : hp.2 r1 = .inl (0, 11, .inl f)) (hg1 : 80 ≤ r1) (zdz : ¬ by9.toInt64 = 0) : ∀ (fu : Nat) (lf9 : Int64) (k9 : Int32) (f1 : (Nat → Int32)), k9.toInt < (11 : Nat) → (k9.toInt + 1).toNat < fu → qq_Go mX7_divide (qq_pt hp r1 (.inl (0, 11, .inl f1))) 0 0 6 [(0, .ref r1), (1, .int by9), (2, .ref r1), (3, .long lf9), (5, .int k9)] [] (fun v hp' => v = none ∧ (qq_pt hp r1 (.inl (0, 11, .inl (lr_X7_divideA_6 by9 fu lf9 k9 f1)))) = hp') (fun _ _ => False)
  | 0, _, _, _, _, zz => absurd zz (Nat.not_lt_zero _)
  | fu + 1, lf9, k9, f1, zu, zh => by
    refine qq_iload dX7_divide_6 4 rfl ?_
    refine qq_if_lt (tgt := 46) dX7_divide_8 (by decide) (fun zc1 => ?_) (fun zc1 => ?_)
    · have ze : lr_X7_divideA_6 by9 (fu + 1) lf9 k9 f1 = f1 := by
        rw [lr_X7_divideA_6, if_pos zc1]
      exact qq_vret dX7_divide_46 rfl ⟨rfl, by rw [ze]⟩
    · refine qq_lload_n dX7_divide_11 rfl 3 rfl ?_
      refine qq_bipush (v := 32) dX7_divide_12 (by decide) ?_
      refine qq_lshl dX7_divide_14 ?_
      refine qq_aload_n dX7_divide_15 rfl 0 rfl ?_
      refine qq_iload dX7_divide_16 4 rfl ?_
      refine qq_iald dX7_divide_18 (qq_pts) (qm_ind (by assumption) zu) ?_
      show qq_Go _ (qq_pt hp r1 (.inl (0, 11, .inl f1))) 0 0 19 [(0, .ref r1), (1, .int by9), (2, .ref r1), (3, .long lf9), (5, .int k9)] [.int (f1 k9.toNatClampNeg), .long (lf9 <<< ((32 : Int32).toInt64 &&& 63))] _ _
      refine qq_i2l dX7_divide_19 ?_
      refine qq_ldc2 (v := 4294967295) dX7_divide_20 kl_X7_54 ?_
      refine qq_land dX7_divide_23 ?_
      refine qq_lor dX7_divide_24 ?_
      refine qq_lstore_n (loc' := [(0, .ref r1), (1, .int by9), (2, .ref r1), (3, .long ((lf9 <<< ((32 : Int32).toInt64 &&& 63)) ||| (((f1 k9.toNatClampNeg).toInt64) &&& 4294967295))), (5, .int k9)]) dX7_divide_25 rfl [1, 2, 3, 0, 4] (Nat.le_of_ble_eq_true rfl) rfl ?_
      refine qq_aload_n dX7_divide_26 rfl 2 rfl ?_
      refine qq_iload dX7_divide_27 4 rfl ?_
      refine qq_lload_n dX7_divide_29 rfl 3 rfl ?_
      refine qq_iload_n dX7_divide_30 rfl 1 rfl ?_
      refine qq_i2l dX7_divide_31 ?_
      refine qq_ldiv dX7_divide_32 zdz ?_
      refine qq_l2i dX7_divide_33 ?_
      refine qq_iast dX7_divide_34 (qq_pts) hg1 (qm_ind (by assumption) zu) ?_
      refine qq_hp qq_ptt ?_
      show qq_Go _ (qq_pt hp r1 (.inl (0, 11, .inl (upd f1 k9.toNatClampNeg ((((lf9 <<< ((32 : Int32).toInt64 &&& 63)) ||| (((f1 k9.toNatClampNeg).toInt64) &&& 4294967295)) / by9.toInt64).toInt32))))) 0 0 35 [(0, .ref r1), (1, .int by9), (2, .ref r1), (3, .long ((lf9 <<< ((32 : Int32).toInt64 &&& 63)) ||| (((f1 k9.toNatClampNeg).toInt64) &&& 4294967295))), (5, .int k9)] [] _ _
      refine qq_lload_n dX7_divide_35 rfl 3 rfl ?_
      refine qq_iload_n dX7_divide_36 rfl 1 rfl ?_
      refine qq_i2l dX7_divide_37 ?_
      refine qq_lrem dX7_divide_38 zdz ?_
      refine qq_lstore_n (loc' := [(0, .ref r1), (1, .int by9), (2, .ref r1), (3, .long (((lf9 <<< ((32 : Int32).toInt64 &&& 63)) ||| (((f1 k9.toNatClampNeg).toInt64) &&& 4294967295)) - ((lf9 <<< ((32 : Int32).toInt64 &&& 63)) ||| (((f1 k9.toNatClampNeg).toInt64) &&& 4294967295)) / by9.toInt64 * by9.toInt64)), (5, .int k9)]) dX7_divide_39 rfl [1, 2, 3, 0, 4] (Nat.le_of_ble_eq_true rfl) rfl ?_
      refine qq_iinc (v := k9 + (-1)) (loc' := [(0, .ref r1), (1, .int by9), (2, .ref r1), (3, .long (((lf9 <<< ((32 : Int32).toInt64 &&& 63)) ||| (((f1 k9.toNatClampNeg).toInt64) &&& 4294967295)) - ((lf9 <<< ((32 : Int32).toInt64 &&& 63)) ||| (((f1 k9.toNatClampNeg).toInt64) &&& 4294967295)) / by9.toInt64 * by9.toInt64)), (5, .int (k9 + (-1)))]) dX7_divide_40 4 rfl rfl [1, 2, 3, 4, 0] (Nat.le_of_ble_eq_true rfl) rfl ?_
      refine qq_goto (tgt := 6) dX7_divide_43 (by decide) ?_
      have ze : lr_X7_divideA_6 by9 (fu + 1) lf9 k9 f1 = lr_X7_divideA_6 by9 fu (((lf9 <<< ((32 : Int32).toInt64 &&& 63)) ||| (((f1 k9.toNatClampNeg).toInt64) &&& 4294967295)) - ((lf9 <<< ((32 : Int32).toInt64 &&& 63)) ||| (((f1 k9.toNatClampNeg).toInt64) &&& 4294967295)) / by9.toInt64 * by9.toInt64) (k9 + (-1)) (upd f1 k9.toNatClampNeg ((((lf9 <<< ((32 : Int32).toInt64 &&& 63)) ||| (((f1 k9.toNatClampNeg).toInt64) &&& 4294967295)) / by9.toInt64).toInt32)) := by
        rw [lr_X7_divideA_6, if_neg zc1]
      rw [ze]
      exact lq_X7_divideA_6 hp by9 r1 f hr1 hg1 zdz fu (((lf9 <<< ((32 : Int32).toInt64 &&& 63)) ||| (((f1 k9.toNatClampNeg).toInt64) &&& 4294967295)) - ((lf9 <<< ((32 : Int32).toInt64 &&& 63)) ||| (((f1 k9.toNatClampNeg).toInt64) &&& 4294967295)) / by9.toInt64 * by9.toInt64) (k9 + (-1)) (upd f1 k9.toNatClampNeg ((((lf9 <<< ((32 : Int32).toInt64 &&& 63)) ||| (((f1 k9.toNatClampNeg).toInt64) &&& 4294967295)) / by9.toInt64).toInt32)) (qm_dnU (by assumption) zu) (qm_dnI (by assumption) zh)
def r_X7_divideA (by9 : Int32) (f : (Nat → Int32)) : (Nat → Int32) := lr_X7_divideA_6 by9 12 (0 : Int64) (10 : Int32) f
set_option maxRecDepth 4000 in
theorem mt_X7_divideA (hp : qq_H) (by9 : Int32) (r1 : Nat) (f : (Nat → Int32)) (hr1 : hp.2 r1 = .inl (0, 11, .inl f)) (hg1 : 80 ≤ r1) (zdz : ¬ by9.toInt64 = 0) : qq_Mt mX7_divide [.ref r1, .int by9, .ref r1] hp 0 0 (fun v hp' => v = none ∧ (qq_pt hp r1 (.inl (0, 11, .inl (r_X7_divideA by9 f)))) = hp') (fun _ _ => False) := by
  refine qq_met pn_X7 (Nat.le_of_ble_eq_true rfl) (Nat.le_of_ble_eq_true rfl) kc_X7_divide ?_
  show qq_Go _ hp 0 0 0 [(0, .ref r1), (1, .int by9), (2, .ref r1)] [] _ _
  refine qq_hp (qq_pti hr1) ?_
  refine qq_lconst (v := 0) dX7_divide_0 (by decide) ?_
  refine qq_lstore_n (loc' := [(0, .ref r1), (1, .int by9), (2, .ref r1), (3, .long 0)]) dX7_divide_1 rfl [1, 2, 3, 0] (Nat.le_of_ble_eq_true rfl) rfl ?_
  refine qq_bipush (v := 10) dX7_divide_2 (by decide) ?_
  refine qq_istore (loc' := [(0, .ref r1), (1, .int by9), (2, .ref r1), (3, .long 0), (5, .int 10)]) dX7_divide_4 [1, 2, 3, 4, 0] (Nat.le_of_ble_eq_true rfl) rfl ?_
  have ze : r_X7_divideA by9 f = lr_X7_divideA_6 by9 12 (0 : Int64) (10 : Int32) f := by
    rw [r_X7_divideA]
  rw [ze]
  exact lq_X7_divideA_6 hp by9 r1 f hr1 hg1 zdz 12 (0 : Int64) (10 : Int32) f (by decide) (by decide)
def lr_X7_multiply_5 (by9 : Int32)  : Nat → Int64 → Int32 → (Nat → Int32) → (Nat → Int32)
  | 0, _, _, f1 => f1
  | fu + 1, cy9, k9, f1 => if 11 ≤ k9 then f1 else lr_X7_multiply_5 by9 fu (((cy9 + ((((f1 k9.toNatClampNeg).toInt64) &&& 4294967295) * by9.toInt64)).toUInt64 >>> ((32 : Int32).toInt64.toUInt64 &&& Int64.toUInt64 63)).toInt64) (k9 + 1) (upd f1 k9.toNatClampNeg ((cy9 + ((((f1 k9.toNatClampNeg).toInt64) &&& 4294967295) * by9.toInt64)).toInt32))
set_option maxRecDepth 4000 in
theorem lq_X7_multiply_5 (hp : qq_H) (by9 : Int32) (r1 : Nat) (f : (Nat → Int32)) (hr1 : hp.2 r1 = .inl (0, 11, .inl f)) (hg1 : 80 ≤ r1) : ∀ (fu : Nat) (cy9 : Int64) (k9 : Int32) (f1 : (Nat → Int32)), ¬ k9 < 0 → ((11 : Int32).toInt - k9.toInt).toNat < fu → qq_Go mX7_multiply (qq_pt hp r1 (.inl (0, 11, .inl f1))) 0 0 5 [(0, .ref r1), (1, .int by9), (2, .long cy9), (4, .int k9)] [] (fun v hp' => v = none ∧ (qq_pt hp r1 (.inl (0, 11, .inl (lr_X7_multiply_5 by9 fu cy9 k9 f1)))) = hp') (fun _ _ => False)
  | 0, _, _, _, _, zz => absurd zz (Nat.not_lt_zero _)
  | fu + 1, cy9, k9, f1, zp, zh => by
    refine qq_iload dX7_multiply_5 3 rfl ?_
    refine qq_bipush (v := 11) dX7_multiply_7 (by decide) ?_
    refine qq_icmp_ge (tgt := 44) dX7_multiply_9 (by decide) (fun zc1 => ?_) (fun zc1 => ?_)
    · have ze : lr_X7_multiply_5 by9 (fu + 1) cy9 k9 f1 = f1 := by
        rw [lr_X7_multiply_5, if_pos zc1]
      exact qq_vret dX7_multiply_44 rfl ⟨rfl, by rw [ze]⟩
    · refine qq_lload_n dX7_multiply_12 rfl 2 rfl ?_
      refine qq_aload_n dX7_multiply_13 rfl 0 rfl ?_
      refine qq_iload dX7_multiply_14 3 rfl ?_
      refine qq_iald dX7_multiply_16 (qq_pts) (qm_in11 (by assumption) (by assumption)) ?_
      show qq_Go _ (qq_pt hp r1 (.inl (0, 11, .inl f1))) 0 0 17 [(0, .ref r1), (1, .int by9), (2, .long cy9), (4, .int k9)] [.int (f1 k9.toNatClampNeg), .long cy9] _ _
      refine qq_i2l dX7_multiply_17 ?_
      refine qq_ldc2 (v := 4294967295) dX7_multiply_18 kl_X7_54 ?_
      refine qq_land dX7_multiply_21 ?_
      refine qq_iload_n dX7_multiply_22 rfl 1 rfl ?_
      refine qq_i2l dX7_multiply_23 ?_
      refine qq_lmul dX7_multiply_24 ?_
      refine qq_ladd dX7_multiply_25 ?_
      refine qq_lstore_n (loc' := [(0, .ref r1), (1, .int by9), (2, .long (cy9 + ((((f1 k9.toNatClampNeg).toInt64) &&& 4294967295) * by9.toInt64))), (4, .int k9)]) dX7_multiply_26 rfl [1, 2, 0, 3] (Nat.le_of_ble_eq_true rfl) rfl ?_
      refine qq_aload_n dX7_multiply_27 rfl 0 rfl ?_
      refine qq_iload dX7_multiply_28 3 rfl ?_
      refine qq_lload_n dX7_multiply_30 rfl 2 rfl ?_
      refine qq_l2i dX7_multiply_31 ?_
      refine qq_iast dX7_multiply_32 (qq_pts) hg1 (by first | exact qm_in11 (by assumption) (by assumption) | assumption | exact qm_in11 (by decide) (by decide)) ?_
      refine qq_hp qq_ptt ?_
      show qq_Go _ (qq_pt hp r1 (.inl (0, 11, .inl (upd f1 k9.toNatClampNeg ((cy9 + ((((f1 k9.toNatClampNeg).toInt64) &&& 4294967295) * by9.toInt64)).toInt32))))) 0 0 33 [(0, .ref r1), (1, .int by9), (2, .long (cy9 + ((((f1 k9.toNatClampNeg).toInt64) &&& 4294967295) * by9.toInt64))), (4, .int k9)] [] _ _
      refine qq_lload_n dX7_multiply_33 rfl 2 rfl ?_
      refine qq_bipush (v := 32) dX7_multiply_34 (by decide) ?_
      refine qq_lushr dX7_multiply_36 ?_
      refine qq_lstore_n (loc' := [(0, .ref r1), (1, .int by9), (2, .long (((cy9 + ((((f1 k9.toNatClampNeg).toInt64) &&& 4294967295) * by9.toInt64)).toUInt64 >>> ((32 : Int32).toInt64.toUInt64 &&& Int64.toUInt64 63)).toInt64)), (4, .int k9)]) dX7_multiply_37 rfl [1, 2, 0, 3] (Nat.le_of_ble_eq_true rfl) rfl ?_
      refine qq_iinc (v := k9 + 1) (loc' := [(0, .ref r1), (1, .int by9), (2, .long (((cy9 + ((((f1 k9.toNatClampNeg).toInt64) &&& 4294967295) * by9.toInt64)).toUInt64 >>> ((32 : Int32).toInt64.toUInt64 &&& Int64.toUInt64 63)).toInt64)), (4, .int (k9 + 1))]) dX7_multiply_38 3 rfl rfl [1, 2, 3, 0] (Nat.le_of_ble_eq_true rfl) rfl ?_
      refine qq_goto (tgt := 5) dX7_multiply_41 (by decide) ?_
      have ze : lr_X7_multiply_5 by9 (fu + 1) cy9 k9 f1 = lr_X7_multiply_5 by9 fu (((cy9 + ((((f1 k9.toNatClampNeg).toInt64) &&& 4294967295) * by9.toInt64)).toUInt64 >>> ((32 : Int32).toInt64.toUInt64 &&& Int64.toUInt64 63)).toInt64) (k9 + 1) (upd f1 k9.toNatClampNeg ((cy9 + ((((f1 k9.toNatClampNeg).toInt64) &&& 4294967295) * by9.toInt64)).toInt32)) := by
        rw [lr_X7_multiply_5, if_neg zc1]
      rw [ze]
      exact lq_X7_multiply_5 hp by9 r1 f hr1 hg1 fu (((cy9 + ((((f1 k9.toNatClampNeg).toInt64) &&& 4294967295) * by9.toInt64)).toUInt64 >>> ((32 : Int32).toInt64.toUInt64 &&& Int64.toUInt64 63)).toInt64) (k9 + 1) (upd f1 k9.toNatClampNeg ((cy9 + ((((f1 k9.toNatClampNeg).toInt64) &&& 4294967295) * by9.toInt64)).toInt32)) (qm_pos zp (by assumption)) (qm_up (by assumption) zh)
def r_X7_multiply (by9 : Int32) (f : (Nat → Int32)) : (Nat → Int32) := lr_X7_multiply_5 by9 12 (0 : Int64) (0 : Int32) f
set_option maxRecDepth 4000 in
theorem mt_X7_multiply (hp : qq_H) (by9 : Int32) (r1 : Nat) (f : (Nat → Int32)) (hr1 : hp.2 r1 = .inl (0, 11, .inl f)) (hg1 : 80 ≤ r1) : qq_Mt mX7_multiply [.ref r1, .int by9] hp 0 0 (fun v hp' => v = none ∧ (qq_pt hp r1 (.inl (0, 11, .inl (r_X7_multiply by9 f)))) = hp') (fun _ _ => False) := by
  refine qq_met pn_X7 (Nat.le_of_ble_eq_true rfl) (Nat.le_of_ble_eq_true rfl) kc_X7_multiply ?_
  show qq_Go _ hp 0 0 0 [(0, .ref r1), (1, .int by9)] [] _ _
  refine qq_hp (qq_pti hr1) ?_
  refine qq_lconst (v := 0) dX7_multiply_0 (by decide) ?_
  refine qq_lstore_n (loc' := [(0, .ref r1), (1, .int by9), (2, .long 0)]) dX7_multiply_1 rfl [1, 2, 0] (Nat.le_of_ble_eq_true rfl) rfl ?_
  refine qq_iconst (v := 0) dX7_multiply_2 (by decide) ?_
  refine qq_istore (loc' := [(0, .ref r1), (1, .int by9), (2, .long 0), (4, .int 0)]) dX7_multiply_3 [1, 2, 3, 0] (Nat.le_of_ble_eq_true rfl) rfl ?_
  have ze : r_X7_multiply by9 f = lr_X7_multiply_5 by9 12 (0 : Int64) (0 : Int32) f := by
    rw [r_X7_multiply]
  rw [ze]
  exact lq_X7_multiply_5 hp by9 r1 f hr1 hg1 12 (0 : Int64) (0 : Int32) f (by decide) (by decide)
def lr_X7_isNothing_7  (f : (Nat → Int32)) : Nat → Int32 → Int32
  | 0, _ => 0
  | fu + 1, k9 => if 11 ≤ k9 then 1 else if (f k9.toNatClampNeg) = 0 then lr_X7_isNothing_7 f fu (k9 + 1)  else 0
theorem bzl_X7_isNothing_7  (f : (Nat → Int32)) : ∀ (fu : Nat) (k9 : Int32), lr_X7_isNothing_7 f fu k9  = 0 ∨ lr_X7_isNothing_7 f fu k9  = 1
  | 0, _ => Or.inl rfl
  | fu + 1, k9 => by
    unfold lr_X7_isNothing_7
    exact (qq_i01 (Or.inr rfl) (qq_i01 (bzl_X7_isNothing_7 f fu (k9 + 1) ) (Or.inl rfl)))
set_option maxRecDepth 4000 in
theorem lq_X7_isNothing_7 (hp : qq_H)  (r1 : Nat) (f : (Nat → Int32)) (hr1 : hp.2 r1 = .inl (0, 11, .inl f)) : ∀ (fu : Nat) (k9 : Int32) , ¬ k9 < 0 → ((11 : Int32).toInt - k9.toInt).toNat < fu → qq_Go mX7_isNothing hp 0 0 7 [(0, .ref r1), (1, .ref r1), (2, .int 11), (3, .int k9)] [] (fun v hp' => v = some (.int (lr_X7_isNothing_7 f fu k9 )) ∧ hp = hp') (fun _ _ => False)
  | 0, _, _, zz => absurd zz (Nat.not_lt_zero _)
  | fu + 1, k9, zp, zh => by
    refine qq_iload_n dX7_isNothing_7 rfl 3 rfl ?_
    refine qq_iload_n dX7_isNothing_8 rfl 2 rfl ?_
    refine qq_icmp_ge (tgt := 30) dX7_isNothing_9 (by decide) (fun zc1 => ?_) (fun zc1 => ?_)
    · refine qq_iconst (v := 1) dX7_isNothing_30 (by decide) ?_
      have ze : lr_X7_isNothing_7 f (fu + 1) k9  = 1 := by
        rw [lr_X7_isNothing_7, if_pos zc1]
      exact qq_iret dX7_isNothing_31 rfl rfl ⟨by rw [ze], rfl⟩
    · refine qq_aload_n dX7_isNothing_12 rfl 1 rfl ?_
      refine qq_iload_n dX7_isNothing_13 rfl 3 rfl ?_
      refine qq_iald dX7_isNothing_14 hr1 (qm_in11 (by assumption) (by assumption)) ?_
      show qq_Go _ hp 0 0 15 [(0, .ref r1), (1, .ref r1), (2, .int 11), (3, .int k9)] [.int (f k9.toNatClampNeg)] _ _
      refine qq_istore (loc' := [(0, .ref r1), (1, .ref r1), (2, .int 11), (3, .int k9), (4, .int (f k9.toNatClampNeg))]) dX7_isNothing_15 [1, 2, 3, 4, 0] (Nat.le_of_ble_eq_true rfl) rfl ?_
      refine qq_iload dX7_isNothing_17 4 rfl ?_
      refine qq_if_eq (tgt := 24) dX7_isNothing_19 (by decide) (fun zc2 => ?_) (fun zc2 => ?_)
      · refine qq_iinc (v := k9 + 1) (loc' := [(0, .ref r1), (1, .ref r1), (2, .int 11), (3, .int (k9 + 1)), (4, .int (f k9.toNatClampNeg))]) dX7_isNothing_24 3 rfl rfl [1, 2, 3, 0, 4] (Nat.le_of_ble_eq_true rfl) rfl ?_
        refine qq_goto (tgt := 7) dX7_isNothing_27 (by decide) ?_
        have ze : lr_X7_isNothing_7 f (fu + 1) k9  = lr_X7_isNothing_7 f fu (k9 + 1)  := by
          rw [lr_X7_isNothing_7, if_neg zc1, if_pos zc2]
        rw [ze]
        refine qq_loc [0, 1, 2, 3] rfl ?_
        exact lq_X7_isNothing_7 hp r1 f hr1 fu (k9 + 1) (qm_pos zp (by assumption)) (qm_up (by assumption) zh)
      · refine qq_iconst (v := 0) dX7_isNothing_22 (by decide) ?_
        have ze : lr_X7_isNothing_7 f (fu + 1) k9  = 0 := by
          rw [lr_X7_isNothing_7, if_neg zc1, if_neg zc2]
        exact qq_iret dX7_isNothing_23 rfl rfl ⟨by rw [ze], rfl⟩
def r_X7_isNothing  (f : (Nat → Int32)) : Int32 := lr_X7_isNothing_7 f 12 (0 : Int32) 
theorem bz_X7_isNothing  (f : (Nat → Int32)) : r_X7_isNothing f = 0 ∨ r_X7_isNothing f = 1 := by
  unfold r_X7_isNothing
  exact (bzl_X7_isNothing_7 f 12 (0 : Int32) )
set_option maxRecDepth 4000 in
theorem mt_X7_isNothing (hp : qq_H)  (r1 : Nat) (f : (Nat → Int32)) (hr1 : hp.2 r1 = .inl (0, 11, .inl f)) : qq_Mt mX7_isNothing [.ref r1] hp 0 0 (fun v hp' => v = some (.int (r_X7_isNothing f)) ∧ hp = hp') (fun _ _ => False) := by
  refine qq_met pn_X7 (Nat.le_of_ble_eq_true rfl) (Nat.le_of_ble_eq_true rfl) kc_X7_isNothing ?_
  show qq_Go _ hp 0 0 0 [(0, .ref r1)] [] _ _
  refine qq_aload_n dX7_isNothing_0 rfl 0 rfl ?_
  refine qq_astore_n (loc' := [(0, .ref r1), (1, .ref r1)]) dX7_isNothing_1 rfl [1, 0] (Nat.le_of_ble_eq_true rfl) rfl ?_
  refine qq_aload_n dX7_isNothing_2 rfl 1 rfl ?_
  refine qq_alen dX7_isNothing_3 hr1 (Or.inl (by decide)) rfl ?_
  refine qq_istore_n (loc' := [(0, .ref r1), (1, .ref r1), (2, .int 11)]) dX7_isNothing_4 rfl [1, 2, 0] (Nat.le_of_ble_eq_true rfl) rfl ?_
  refine qq_iconst (v := 0) dX7_isNothing_5 (by decide) ?_
  refine qq_istore_n (loc' := [(0, .ref r1), (1, .ref r1), (2, .int 11), (3, .int 0)]) dX7_isNothing_6 rfl [1, 2, 3, 0] (Nat.le_of_ble_eq_true rfl) rfl ?_
  have ze : r_X7_isNothing f = lr_X7_isNothing_7 f 12 (0 : Int32)  := by
    rw [r_X7_isNothing]
  rw [ze]
  exact lq_X7_isNothing_7 hp r1 f hr1 12 (0 : Int32) (by decide) (by decide)
def lr_X7_add_13 (isL : Int32) (g : (Nat → Int32)) : Nat → Int64 → Int32 → (Nat → Int32) → (Nat → Int32)
  | 0, _, _, f1 => f1
  | fu + 1, cy9, k9, f1 => if 11 ≤ k9 then f1 else if isL = 0 then lr_X7_add_13 isL g fu (((cy9 + ((((f1 k9.toNatClampNeg).toInt64) &&& 4294967295) + (((g k9.toNatClampNeg).toInt64) &&& 4294967295))).toUInt64 >>> ((32 : Int32).toInt64.toUInt64 &&& Int64.toUInt64 63)).toInt64) (k9 + 1) (upd f1 k9.toNatClampNeg ((cy9 + ((((f1 k9.toNatClampNeg).toInt64) &&& 4294967295) + (((g k9.toNatClampNeg).toInt64) &&& 4294967295))).toInt32)) else lr_X7_add_13 isL g fu (((cy9 + ((((f1 k9.toNatClampNeg).toInt64) &&& 4294967295) + ((((g k9.toNatClampNeg) ^^^ (-1)).toInt64) &&& 4294967295))).toUInt64 >>> ((32 : Int32).toInt64.toUInt64 &&& Int64.toUInt64 63)).toInt64) (k9 + 1) (upd f1 k9.toNatClampNeg ((cy9 + ((((f1 k9.toNatClampNeg).toInt64) &&& 4294967295) + ((((g k9.toNatClampNeg) ^^^ (-1)).toInt64) &&& 4294967295))).toInt32))
set_option maxRecDepth 4000 in
theorem lq_X7_add_13 (hp : qq_H) (isL : Int32) (r2 : Nat) (r1 : Nat) (g : (Nat → Int32)) (f : (Nat → Int32)) (hr2 : hp.2 r2 = .inl (0, 11, .inl g)) (hr1 : hp.2 r1 = .inl (0, 11, .inl f)) (hg1 : 80 ≤ r1) (hne : r2 ≠ r1) : ∀ (fu : Nat) (cy9 : Int64) (k9 : Int32) (f1 : (Nat → Int32)), ¬ k9 < 0 → ((11 : Int32).toInt - k9.toInt).toNat < fu → qq_Go mX7_add (qq_pt hp r1 (.inl (0, 11, .inl f1))) 0 0 13 [(0, .ref r1), (1, .ref r2), (2, .int isL), (3, .long cy9), (5, .int k9)] [] (fun v hp' => v = none ∧ (qq_pt hp r1 (.inl (0, 11, .inl (lr_X7_add_13 isL g fu cy9 k9 f1)))) = hp') (fun _ _ => False)
  | 0, _, _, _, _, zz => absurd zz (Nat.not_lt_zero _)
  | fu + 1, cy9, k9, f1, zp, zh => by
    refine qq_iload dX7_add_13 4 rfl ?_
    refine qq_bipush (v := 11) dX7_add_15 (by decide) ?_
    refine qq_icmp_ge (tgt := 72) dX7_add_17 (by decide) (fun zc1 => ?_) (fun zc1 => ?_)
    · have ze : lr_X7_add_13 isL g (fu + 1) cy9 k9 f1 = f1 := by
        rw [lr_X7_add_13, if_pos zc1]
      exact qq_vret dX7_add_72 rfl ⟨rfl, by rw [ze]⟩
    · refine qq_lload_n dX7_add_20 rfl 3 rfl ?_
      refine qq_aload_n dX7_add_21 rfl 0 rfl ?_
      refine qq_iload dX7_add_22 4 rfl ?_
      refine qq_iald dX7_add_24 (qq_pts) (qm_in11 (by assumption) (by assumption)) ?_
      show qq_Go _ (qq_pt hp r1 (.inl (0, 11, .inl f1))) 0 0 25 [(0, .ref r1), (1, .ref r2), (2, .int isL), (3, .long cy9), (5, .int k9)] [.int (f1 k9.toNatClampNeg), .long cy9] _ _
      refine qq_i2l dX7_add_25 ?_
      refine qq_ldc2 (v := 4294967295) dX7_add_26 kl_X7_54 ?_
      refine qq_land dX7_add_29 ?_
      refine qq_iload_n dX7_add_30 rfl 2 rfl ?_
      refine qq_if_eq (tgt := 43) dX7_add_31 (by decide) (fun zc2 => ?_) (fun zc2 => ?_)
      · refine qq_aload_n dX7_add_43 rfl 1 rfl ?_
        refine qq_iload dX7_add_44 4 rfl ?_
        refine qq_iald dX7_add_46 (qq_pto hne hr2) (qm_in11 (by assumption) (by assumption)) ?_
        show qq_Go _ (qq_pt hp r1 (.inl (0, 11, .inl f1))) 0 0 47 [(0, .ref r1), (1, .ref r2), (2, .int isL), (3, .long cy9), (5, .int k9)] [.int (g k9.toNatClampNeg), .long (((f1 k9.toNatClampNeg).toInt64) &&& 4294967295), .long cy9] _ _
        refine qq_i2l dX7_add_47 ?_
        refine qq_ldc2 (v := 4294967295) dX7_add_48 kl_X7_54 ?_
        refine qq_land dX7_add_51 ?_
        refine qq_ladd dX7_add_52 ?_
        refine qq_ladd dX7_add_53 ?_
        refine qq_lstore_n (loc' := [(0, .ref r1), (1, .ref r2), (2, .int isL), (3, .long (cy9 + ((((f1 k9.toNatClampNeg).toInt64) &&& 4294967295) + (((g k9.toNatClampNeg).toInt64) &&& 4294967295)))), (5, .int k9)]) dX7_add_54 rfl [1, 2, 3, 0, 4] (Nat.le_of_ble_eq_true rfl) rfl ?_
        refine qq_aload_n dX7_add_55 rfl 0 rfl ?_
        refine qq_iload dX7_add_56 4 rfl ?_
        refine qq_lload_n dX7_add_58 rfl 3 rfl ?_
        refine qq_l2i dX7_add_59 ?_
        refine qq_iast dX7_add_60 (qq_pts) hg1 (qm_in11 (by assumption) (by assumption)) ?_
        refine qq_hp qq_ptt ?_
        show qq_Go _ (qq_pt hp r1 (.inl (0, 11, .inl (upd f1 k9.toNatClampNeg ((cy9 + ((((f1 k9.toNatClampNeg).toInt64) &&& 4294967295) + (((g k9.toNatClampNeg).toInt64) &&& 4294967295))).toInt32))))) 0 0 61 [(0, .ref r1), (1, .ref r2), (2, .int isL), (3, .long (cy9 + ((((f1 k9.toNatClampNeg).toInt64) &&& 4294967295) + (((g k9.toNatClampNeg).toInt64) &&& 4294967295)))), (5, .int k9)] [] _ _
        refine qq_lload_n dX7_add_61 rfl 3 rfl ?_
        refine qq_bipush (v := 32) dX7_add_62 (by decide) ?_
        refine qq_lushr dX7_add_64 ?_
        refine qq_lstore_n (loc' := [(0, .ref r1), (1, .ref r2), (2, .int isL), (3, .long (((cy9 + ((((f1 k9.toNatClampNeg).toInt64) &&& 4294967295) + (((g k9.toNatClampNeg).toInt64) &&& 4294967295))).toUInt64 >>> ((32 : Int32).toInt64.toUInt64 &&& Int64.toUInt64 63)).toInt64)), (5, .int k9)]) dX7_add_65 rfl [1, 2, 3, 0, 4] (Nat.le_of_ble_eq_true rfl) rfl ?_
        refine qq_iinc (v := k9 + 1) (loc' := [(0, .ref r1), (1, .ref r2), (2, .int isL), (3, .long (((cy9 + ((((f1 k9.toNatClampNeg).toInt64) &&& 4294967295) + (((g k9.toNatClampNeg).toInt64) &&& 4294967295))).toUInt64 >>> ((32 : Int32).toInt64.toUInt64 &&& Int64.toUInt64 63)).toInt64)), (5, .int (k9 + 1))]) dX7_add_66 4 rfl rfl [1, 2, 3, 4, 0] (Nat.le_of_ble_eq_true rfl) rfl ?_
        refine qq_goto (tgt := 13) dX7_add_69 (by decide) ?_
        have ze : lr_X7_add_13 isL g (fu + 1) cy9 k9 f1 = lr_X7_add_13 isL g fu (((cy9 + ((((f1 k9.toNatClampNeg).toInt64) &&& 4294967295) + (((g k9.toNatClampNeg).toInt64) &&& 4294967295))).toUInt64 >>> ((32 : Int32).toInt64.toUInt64 &&& Int64.toUInt64 63)).toInt64) (k9 + 1) (upd f1 k9.toNatClampNeg ((cy9 + ((((f1 k9.toNatClampNeg).toInt64) &&& 4294967295) + (((g k9.toNatClampNeg).toInt64) &&& 4294967295))).toInt32)) := by
          rw [lr_X7_add_13, if_neg zc1, if_pos zc2]
        rw [ze]
        exact lq_X7_add_13 hp isL r2 r1 g f hr2 hr1 hg1 hne fu (((cy9 + ((((f1 k9.toNatClampNeg).toInt64) &&& 4294967295) + (((g k9.toNatClampNeg).toInt64) &&& 4294967295))).toUInt64 >>> ((32 : Int32).toInt64.toUInt64 &&& Int64.toUInt64 63)).toInt64) (k9 + 1) (upd f1 k9.toNatClampNeg ((cy9 + ((((f1 k9.toNatClampNeg).toInt64) &&& 4294967295) + (((g k9.toNatClampNeg).toInt64) &&& 4294967295))).toInt32)) (qm_pos zp (by assumption)) (qm_up (by assumption) zh)
      · refine qq_aload_n dX7_add_34 rfl 1 rfl ?_
        refine qq_iload dX7_add_35 4 rfl ?_
        refine qq_iald dX7_add_37 (qq_pto hne hr2) (qm_in11 (by assumption) (by assumption)) ?_
        show qq_Go _ (qq_pt hp r1 (.inl (0, 11, .inl f1))) 0 0 38 [(0, .ref r1), (1, .ref r2), (2, .int isL), (3, .long cy9), (5, .int k9)] [.int (g k9.toNatClampNeg), .long (((f1 k9.toNatClampNeg).toInt64) &&& 4294967295), .long cy9] _ _
        refine qq_iconst (v := (-1)) dX7_add_38 (by decide) ?_
        refine qq_ixor dX7_add_39 ?_
        refine qq_goto (tgt := 47) dX7_add_40 (by decide) ?_
        refine qq_i2l dX7_add_47 ?_
        refine qq_ldc2 (v := 4294967295) dX7_add_48 kl_X7_54 ?_
        refine qq_land dX7_add_51 ?_
        refine qq_ladd dX7_add_52 ?_
        refine qq_ladd dX7_add_53 ?_
        refine qq_lstore_n (loc' := [(0, .ref r1), (1, .ref r2), (2, .int isL), (3, .long (cy9 + ((((f1 k9.toNatClampNeg).toInt64) &&& 4294967295) + ((((g k9.toNatClampNeg) ^^^ (-1)).toInt64) &&& 4294967295)))), (5, .int k9)]) dX7_add_54 rfl [1, 2, 3, 0, 4] (Nat.le_of_ble_eq_true rfl) rfl ?_
        refine qq_aload_n dX7_add_55 rfl 0 rfl ?_
        refine qq_iload dX7_add_56 4 rfl ?_
        refine qq_lload_n dX7_add_58 rfl 3 rfl ?_
        refine qq_l2i dX7_add_59 ?_
        refine qq_iast dX7_add_60 (qq_pts) hg1 (qm_in11 (by assumption) (by assumption)) ?_
        refine qq_hp qq_ptt ?_
        show qq_Go _ (qq_pt hp r1 (.inl (0, 11, .inl (upd f1 k9.toNatClampNeg ((cy9 + ((((f1 k9.toNatClampNeg).toInt64) &&& 4294967295) + ((((g k9.toNatClampNeg) ^^^ (-1)).toInt64) &&& 4294967295))).toInt32))))) 0 0 61 [(0, .ref r1), (1, .ref r2), (2, .int isL), (3, .long (cy9 + ((((f1 k9.toNatClampNeg).toInt64) &&& 4294967295) + ((((g k9.toNatClampNeg) ^^^ (-1)).toInt64) &&& 4294967295)))), (5, .int k9)] [] _ _
        refine qq_lload_n dX7_add_61 rfl 3 rfl ?_
        refine qq_bipush (v := 32) dX7_add_62 (by decide) ?_
        refine qq_lushr dX7_add_64 ?_
        refine qq_lstore_n (loc' := [(0, .ref r1), (1, .ref r2), (2, .int isL), (3, .long (((cy9 + ((((f1 k9.toNatClampNeg).toInt64) &&& 4294967295) + ((((g k9.toNatClampNeg) ^^^ (-1)).toInt64) &&& 4294967295))).toUInt64 >>> ((32 : Int32).toInt64.toUInt64 &&& Int64.toUInt64 63)).toInt64)), (5, .int k9)]) dX7_add_65 rfl [1, 2, 3, 0, 4] (Nat.le_of_ble_eq_true rfl) rfl ?_
        refine qq_iinc (v := k9 + 1) (loc' := [(0, .ref r1), (1, .ref r2), (2, .int isL), (3, .long (((cy9 + ((((f1 k9.toNatClampNeg).toInt64) &&& 4294967295) + ((((g k9.toNatClampNeg) ^^^ (-1)).toInt64) &&& 4294967295))).toUInt64 >>> ((32 : Int32).toInt64.toUInt64 &&& Int64.toUInt64 63)).toInt64)), (5, .int (k9 + 1))]) dX7_add_66 4 rfl rfl [1, 2, 3, 4, 0] (Nat.le_of_ble_eq_true rfl) rfl ?_
        refine qq_goto (tgt := 13) dX7_add_69 (by decide) ?_
        have ze : lr_X7_add_13 isL g (fu + 1) cy9 k9 f1 = lr_X7_add_13 isL g fu (((cy9 + ((((f1 k9.toNatClampNeg).toInt64) &&& 4294967295) + ((((g k9.toNatClampNeg) ^^^ (-1)).toInt64) &&& 4294967295))).toUInt64 >>> ((32 : Int32).toInt64.toUInt64 &&& Int64.toUInt64 63)).toInt64) (k9 + 1) (upd f1 k9.toNatClampNeg ((cy9 + ((((f1 k9.toNatClampNeg).toInt64) &&& 4294967295) + ((((g k9.toNatClampNeg) ^^^ (-1)).toInt64) &&& 4294967295))).toInt32)) := by
          rw [lr_X7_add_13, if_neg zc1, if_neg zc2]
        rw [ze]
        exact lq_X7_add_13 hp isL r2 r1 g f hr2 hr1 hg1 hne fu (((cy9 + ((((f1 k9.toNatClampNeg).toInt64) &&& 4294967295) + ((((g k9.toNatClampNeg) ^^^ (-1)).toInt64) &&& 4294967295))).toUInt64 >>> ((32 : Int32).toInt64.toUInt64 &&& Int64.toUInt64 63)).toInt64) (k9 + 1) (upd f1 k9.toNatClampNeg ((cy9 + ((((f1 k9.toNatClampNeg).toInt64) &&& 4294967295) + ((((g k9.toNatClampNeg) ^^^ (-1)).toInt64) &&& 4294967295))).toInt32)) (qm_pos zp (by assumption)) (qm_up (by assumption) zh)
def r_X7_add (isL : Int32) (g : (Nat → Int32)) (f : (Nat → Int32)) : (Nat → Int32) := if isL = 0 then lr_X7_add_13 isL g 12 (0 : Int64) (0 : Int32) f else lr_X7_add_13 isL g 12 (1 : Int64) (0 : Int32) f
set_option maxRecDepth 4000 in
theorem mt_X7_add (hp : qq_H) (isL : Int32) (r2 : Nat) (r1 : Nat) (g : (Nat → Int32)) (f : (Nat → Int32)) (hr2 : hp.2 r2 = .inl (0, 11, .inl g)) (hr1 : hp.2 r1 = .inl (0, 11, .inl f)) (hg1 : 80 ≤ r1) (hne : r2 ≠ r1) : qq_Mt mX7_add [.ref r1, .ref r2, .int isL] hp 0 0 (fun v hp' => v = none ∧ (qq_pt hp r1 (.inl (0, 11, .inl (r_X7_add isL g f)))) = hp') (fun _ _ => False) := by
  refine qq_met pn_X7 (Nat.le_of_ble_eq_true rfl) (Nat.le_of_ble_eq_true rfl) kc_X7_add ?_
  show qq_Go _ hp 0 0 0 [(0, .ref r1), (1, .ref r2), (2, .int isL)] [] _ _
  refine qq_hp (qq_pti hr1) ?_
  refine qq_iload_n dX7_add_0 rfl 2 rfl ?_
  refine qq_if_eq (tgt := 8) dX7_add_1 (by decide) (fun zc1 => ?_) (fun zc1 => ?_)
  · refine qq_lconst (v := 0) dX7_add_8 (by decide) ?_
    refine qq_lstore_n (loc' := [(0, .ref r1), (1, .ref r2), (2, .int isL), (3, .long 0)]) dX7_add_9 rfl [1, 2, 3, 0] (Nat.le_of_ble_eq_true rfl) rfl ?_
    refine qq_iconst (v := 0) dX7_add_10 (by decide) ?_
    refine qq_istore (loc' := [(0, .ref r1), (1, .ref r2), (2, .int isL), (3, .long 0), (5, .int 0)]) dX7_add_11 [1, 2, 3, 4, 0] (Nat.le_of_ble_eq_true rfl) rfl ?_
    have ze : r_X7_add isL g f = lr_X7_add_13 isL g 12 (0 : Int64) (0 : Int32) f := by
      rw [r_X7_add, if_pos zc1]
    rw [ze]
    exact lq_X7_add_13 hp isL r2 r1 g f hr2 hr1 hg1 hne 12 (0 : Int64) (0 : Int32) f (by decide) (by decide)
  · refine qq_lconst (v := 1) dX7_add_4 (by decide) ?_
    refine qq_goto (tgt := 9) dX7_add_5 (by decide) ?_
    refine qq_lstore_n (loc' := [(0, .ref r1), (1, .ref r2), (2, .int isL), (3, .long 1)]) dX7_add_9 rfl [1, 2, 3, 0] (Nat.le_of_ble_eq_true rfl) rfl ?_
    refine qq_iconst (v := 0) dX7_add_10 (by decide) ?_
    refine qq_istore (loc' := [(0, .ref r1), (1, .ref r2), (2, .int isL), (3, .long 1), (5, .int 0)]) dX7_add_11 [1, 2, 3, 4, 0] (Nat.le_of_ble_eq_true rfl) rfl ?_
    have ze : r_X7_add isL g f = lr_X7_add_13 isL g 12 (1 : Int64) (0 : Int32) f := by
      rw [r_X7_add, if_neg zc1]
    rw [ze]
    exact lq_X7_add_13 hp isL r2 r1 g f hr2 hr1 hg1 hne 12 (1 : Int64) (0 : Int32) f (by decide) (by decide)
def lr_X7_addA_13 (isL : Int32)  : Nat → Int64 → Int32 → (Nat → Int32) → (Nat → Int32)
  | 0, _, _, f1 => f1
  | fu + 1, cy9, k9, f1 => if 11 ≤ k9 then f1 else if isL = 0 then lr_X7_addA_13 isL fu (((cy9 + ((((f1 k9.toNatClampNeg).toInt64) &&& 4294967295) + (((f1 k9.toNatClampNeg).toInt64) &&& 4294967295))).toUInt64 >>> ((32 : Int32).toInt64.toUInt64 &&& Int64.toUInt64 63)).toInt64) (k9 + 1) (upd f1 k9.toNatClampNeg ((cy9 + ((((f1 k9.toNatClampNeg).toInt64) &&& 4294967295) + (((f1 k9.toNatClampNeg).toInt64) &&& 4294967295))).toInt32)) else lr_X7_addA_13 isL fu (((cy9 + ((((f1 k9.toNatClampNeg).toInt64) &&& 4294967295) + ((((f1 k9.toNatClampNeg) ^^^ (-1)).toInt64) &&& 4294967295))).toUInt64 >>> ((32 : Int32).toInt64.toUInt64 &&& Int64.toUInt64 63)).toInt64) (k9 + 1) (upd f1 k9.toNatClampNeg ((cy9 + ((((f1 k9.toNatClampNeg).toInt64) &&& 4294967295) + ((((f1 k9.toNatClampNeg) ^^^ (-1)).toInt64) &&& 4294967295))).toInt32))
set_option maxRecDepth 4000 in
theorem lq_X7_addA_13 (hp : qq_H) (isL : Int32) (r1 : Nat) (f : (Nat → Int32)) (hr1 : hp.2 r1 = .inl (0, 11, .inl f)) (hg1 : 80 ≤ r1) : ∀ (fu : Nat) (cy9 : Int64) (k9 : Int32) (f1 : (Nat → Int32)), ¬ k9 < 0 → ((11 : Int32).toInt - k9.toInt).toNat < fu → qq_Go mX7_add (qq_pt hp r1 (.inl (0, 11, .inl f1))) 0 0 13 [(0, .ref r1), (1, .ref r1), (2, .int isL), (3, .long cy9), (5, .int k9)] [] (fun v hp' => v = none ∧ (qq_pt hp r1 (.inl (0, 11, .inl (lr_X7_addA_13 isL fu cy9 k9 f1)))) = hp') (fun _ _ => False)
  | 0, _, _, _, _, zz => absurd zz (Nat.not_lt_zero _)
  | fu + 1, cy9, k9, f1, zp, zh => by
    refine qq_iload dX7_add_13 4 rfl ?_
    refine qq_bipush (v := 11) dX7_add_15 (by decide) ?_
    refine qq_icmp_ge (tgt := 72) dX7_add_17 (by decide) (fun zc1 => ?_) (fun zc1 => ?_)
    · have ze : lr_X7_addA_13 isL (fu + 1) cy9 k9 f1 = f1 := by
        rw [lr_X7_addA_13, if_pos zc1]
      exact qq_vret dX7_add_72 rfl ⟨rfl, by rw [ze]⟩
    · refine qq_lload_n dX7_add_20 rfl 3 rfl ?_
      refine qq_aload_n dX7_add_21 rfl 0 rfl ?_
      refine qq_iload dX7_add_22 4 rfl ?_
      refine qq_iald dX7_add_24 (qq_pts) (qm_in11 (by assumption) (by assumption)) ?_
      show qq_Go _ (qq_pt hp r1 (.inl (0, 11, .inl f1))) 0 0 25 [(0, .ref r1), (1, .ref r1), (2, .int isL), (3, .long cy9), (5, .int k9)] [.int (f1 k9.toNatClampNeg), .long cy9] _ _
      refine qq_i2l dX7_add_25 ?_
      refine qq_ldc2 (v := 4294967295) dX7_add_26 kl_X7_54 ?_
      refine qq_land dX7_add_29 ?_
      refine qq_iload_n dX7_add_30 rfl 2 rfl ?_
      refine qq_if_eq (tgt := 43) dX7_add_31 (by decide) (fun zc2 => ?_) (fun zc2 => ?_)
      · refine qq_aload_n dX7_add_43 rfl 1 rfl ?_
        refine qq_iload dX7_add_44 4 rfl ?_
        refine qq_iald dX7_add_46 (qq_pts) (qm_in11 (by assumption) (by assumption)) ?_
        show qq_Go _ (qq_pt hp r1 (.inl (0, 11, .inl f1))) 0 0 47 [(0, .ref r1), (1, .ref r1), (2, .int isL), (3, .long cy9), (5, .int k9)] [.int (f1 k9.toNatClampNeg), .long (((f1 k9.toNatClampNeg).toInt64) &&& 4294967295), .long cy9] _ _
        refine qq_i2l dX7_add_47 ?_
        refine qq_ldc2 (v := 4294967295) dX7_add_48 kl_X7_54 ?_
        refine qq_land dX7_add_51 ?_
        refine qq_ladd dX7_add_52 ?_
        refine qq_ladd dX7_add_53 ?_
        refine qq_lstore_n (loc' := [(0, .ref r1), (1, .ref r1), (2, .int isL), (3, .long (cy9 + ((((f1 k9.toNatClampNeg).toInt64) &&& 4294967295) + (((f1 k9.toNatClampNeg).toInt64) &&& 4294967295)))), (5, .int k9)]) dX7_add_54 rfl [1, 2, 3, 0, 4] (Nat.le_of_ble_eq_true rfl) rfl ?_
        refine qq_aload_n dX7_add_55 rfl 0 rfl ?_
        refine qq_iload dX7_add_56 4 rfl ?_
        refine qq_lload_n dX7_add_58 rfl 3 rfl ?_
        refine qq_l2i dX7_add_59 ?_
        refine qq_iast dX7_add_60 (qq_pts) hg1 (qm_in11 (by assumption) (by assumption)) ?_
        refine qq_hp qq_ptt ?_
        show qq_Go _ (qq_pt hp r1 (.inl (0, 11, .inl (upd f1 k9.toNatClampNeg ((cy9 + ((((f1 k9.toNatClampNeg).toInt64) &&& 4294967295) + (((f1 k9.toNatClampNeg).toInt64) &&& 4294967295))).toInt32))))) 0 0 61 [(0, .ref r1), (1, .ref r1), (2, .int isL), (3, .long (cy9 + ((((f1 k9.toNatClampNeg).toInt64) &&& 4294967295) + (((f1 k9.toNatClampNeg).toInt64) &&& 4294967295)))), (5, .int k9)] [] _ _
        refine qq_lload_n dX7_add_61 rfl 3 rfl ?_
        refine qq_bipush (v := 32) dX7_add_62 (by decide) ?_
        refine qq_lushr dX7_add_64 ?_
        refine qq_lstore_n (loc' := [(0, .ref r1), (1, .ref r1), (2, .int isL), (3, .long (((cy9 + ((((f1 k9.toNatClampNeg).toInt64) &&& 4294967295) + (((f1 k9.toNatClampNeg).toInt64) &&& 4294967295))).toUInt64 >>> ((32 : Int32).toInt64.toUInt64 &&& Int64.toUInt64 63)).toInt64)), (5, .int k9)]) dX7_add_65 rfl [1, 2, 3, 0, 4] (Nat.le_of_ble_eq_true rfl) rfl ?_
        refine qq_iinc (v := k9 + 1) (loc' := [(0, .ref r1), (1, .ref r1), (2, .int isL), (3, .long (((cy9 + ((((f1 k9.toNatClampNeg).toInt64) &&& 4294967295) + (((f1 k9.toNatClampNeg).toInt64) &&& 4294967295))).toUInt64 >>> ((32 : Int32).toInt64.toUInt64 &&& Int64.toUInt64 63)).toInt64)), (5, .int (k9 + 1))]) dX7_add_66 4 rfl rfl [1, 2, 3, 4, 0] (Nat.le_of_ble_eq_true rfl) rfl ?_
        refine qq_goto (tgt := 13) dX7_add_69 (by decide) ?_
        have ze : lr_X7_addA_13 isL (fu + 1) cy9 k9 f1 = lr_X7_addA_13 isL fu (((cy9 + ((((f1 k9.toNatClampNeg).toInt64) &&& 4294967295) + (((f1 k9.toNatClampNeg).toInt64) &&& 4294967295))).toUInt64 >>> ((32 : Int32).toInt64.toUInt64 &&& Int64.toUInt64 63)).toInt64) (k9 + 1) (upd f1 k9.toNatClampNeg ((cy9 + ((((f1 k9.toNatClampNeg).toInt64) &&& 4294967295) + (((f1 k9.toNatClampNeg).toInt64) &&& 4294967295))).toInt32)) := by
          rw [lr_X7_addA_13, if_neg zc1, if_pos zc2]
        rw [ze]
        exact lq_X7_addA_13 hp isL r1 f hr1 hg1 fu (((cy9 + ((((f1 k9.toNatClampNeg).toInt64) &&& 4294967295) + (((f1 k9.toNatClampNeg).toInt64) &&& 4294967295))).toUInt64 >>> ((32 : Int32).toInt64.toUInt64 &&& Int64.toUInt64 63)).toInt64) (k9 + 1) (upd f1 k9.toNatClampNeg ((cy9 + ((((f1 k9.toNatClampNeg).toInt64) &&& 4294967295) + (((f1 k9.toNatClampNeg).toInt64) &&& 4294967295))).toInt32)) (qm_pos zp (by assumption)) (qm_up (by assumption) zh)
      · refine qq_aload_n dX7_add_34 rfl 1 rfl ?_
        refine qq_iload dX7_add_35 4 rfl ?_
        refine qq_iald dX7_add_37 (qq_pts) (qm_in11 (by assumption) (by assumption)) ?_
        show qq_Go _ (qq_pt hp r1 (.inl (0, 11, .inl f1))) 0 0 38 [(0, .ref r1), (1, .ref r1), (2, .int isL), (3, .long cy9), (5, .int k9)] [.int (f1 k9.toNatClampNeg), .long (((f1 k9.toNatClampNeg).toInt64) &&& 4294967295), .long cy9] _ _
        refine qq_iconst (v := (-1)) dX7_add_38 (by decide) ?_
        refine qq_ixor dX7_add_39 ?_
        refine qq_goto (tgt := 47) dX7_add_40 (by decide) ?_
        refine qq_i2l dX7_add_47 ?_
        refine qq_ldc2 (v := 4294967295) dX7_add_48 kl_X7_54 ?_
        refine qq_land dX7_add_51 ?_
        refine qq_ladd dX7_add_52 ?_
        refine qq_ladd dX7_add_53 ?_
        refine qq_lstore_n (loc' := [(0, .ref r1), (1, .ref r1), (2, .int isL), (3, .long (cy9 + ((((f1 k9.toNatClampNeg).toInt64) &&& 4294967295) + ((((f1 k9.toNatClampNeg) ^^^ (-1)).toInt64) &&& 4294967295)))), (5, .int k9)]) dX7_add_54 rfl [1, 2, 3, 0, 4] (Nat.le_of_ble_eq_true rfl) rfl ?_
        refine qq_aload_n dX7_add_55 rfl 0 rfl ?_
        refine qq_iload dX7_add_56 4 rfl ?_
        refine qq_lload_n dX7_add_58 rfl 3 rfl ?_
        refine qq_l2i dX7_add_59 ?_
        refine qq_iast dX7_add_60 (qq_pts) hg1 (qm_in11 (by assumption) (by assumption)) ?_
        refine qq_hp qq_ptt ?_
        show qq_Go _ (qq_pt hp r1 (.inl (0, 11, .inl (upd f1 k9.toNatClampNeg ((cy9 + ((((f1 k9.toNatClampNeg).toInt64) &&& 4294967295) + ((((f1 k9.toNatClampNeg) ^^^ (-1)).toInt64) &&& 4294967295))).toInt32))))) 0 0 61 [(0, .ref r1), (1, .ref r1), (2, .int isL), (3, .long (cy9 + ((((f1 k9.toNatClampNeg).toInt64) &&& 4294967295) + ((((f1 k9.toNatClampNeg) ^^^ (-1)).toInt64) &&& 4294967295)))), (5, .int k9)] [] _ _
        refine qq_lload_n dX7_add_61 rfl 3 rfl ?_
        refine qq_bipush (v := 32) dX7_add_62 (by decide) ?_
        refine qq_lushr dX7_add_64 ?_
        refine qq_lstore_n (loc' := [(0, .ref r1), (1, .ref r1), (2, .int isL), (3, .long (((cy9 + ((((f1 k9.toNatClampNeg).toInt64) &&& 4294967295) + ((((f1 k9.toNatClampNeg) ^^^ (-1)).toInt64) &&& 4294967295))).toUInt64 >>> ((32 : Int32).toInt64.toUInt64 &&& Int64.toUInt64 63)).toInt64)), (5, .int k9)]) dX7_add_65 rfl [1, 2, 3, 0, 4] (Nat.le_of_ble_eq_true rfl) rfl ?_
        refine qq_iinc (v := k9 + 1) (loc' := [(0, .ref r1), (1, .ref r1), (2, .int isL), (3, .long (((cy9 + ((((f1 k9.toNatClampNeg).toInt64) &&& 4294967295) + ((((f1 k9.toNatClampNeg) ^^^ (-1)).toInt64) &&& 4294967295))).toUInt64 >>> ((32 : Int32).toInt64.toUInt64 &&& Int64.toUInt64 63)).toInt64)), (5, .int (k9 + 1))]) dX7_add_66 4 rfl rfl [1, 2, 3, 4, 0] (Nat.le_of_ble_eq_true rfl) rfl ?_
        refine qq_goto (tgt := 13) dX7_add_69 (by decide) ?_
        have ze : lr_X7_addA_13 isL (fu + 1) cy9 k9 f1 = lr_X7_addA_13 isL fu (((cy9 + ((((f1 k9.toNatClampNeg).toInt64) &&& 4294967295) + ((((f1 k9.toNatClampNeg) ^^^ (-1)).toInt64) &&& 4294967295))).toUInt64 >>> ((32 : Int32).toInt64.toUInt64 &&& Int64.toUInt64 63)).toInt64) (k9 + 1) (upd f1 k9.toNatClampNeg ((cy9 + ((((f1 k9.toNatClampNeg).toInt64) &&& 4294967295) + ((((f1 k9.toNatClampNeg) ^^^ (-1)).toInt64) &&& 4294967295))).toInt32)) := by
          rw [lr_X7_addA_13, if_neg zc1, if_neg zc2]
        rw [ze]
        exact lq_X7_addA_13 hp isL r1 f hr1 hg1 fu (((cy9 + ((((f1 k9.toNatClampNeg).toInt64) &&& 4294967295) + ((((f1 k9.toNatClampNeg) ^^^ (-1)).toInt64) &&& 4294967295))).toUInt64 >>> ((32 : Int32).toInt64.toUInt64 &&& Int64.toUInt64 63)).toInt64) (k9 + 1) (upd f1 k9.toNatClampNeg ((cy9 + ((((f1 k9.toNatClampNeg).toInt64) &&& 4294967295) + ((((f1 k9.toNatClampNeg) ^^^ (-1)).toInt64) &&& 4294967295))).toInt32)) (qm_pos zp (by assumption)) (qm_up (by assumption) zh)
def r_X7_addA (isL : Int32) (f : (Nat → Int32)) : (Nat → Int32) := if isL = 0 then lr_X7_addA_13 isL 12 (0 : Int64) (0 : Int32) f else lr_X7_addA_13 isL 12 (1 : Int64) (0 : Int32) f
set_option maxRecDepth 4000 in
theorem mt_X7_addA (hp : qq_H) (isL : Int32) (r1 : Nat) (f : (Nat → Int32)) (hr1 : hp.2 r1 = .inl (0, 11, .inl f)) (hg1 : 80 ≤ r1) : qq_Mt mX7_add [.ref r1, .ref r1, .int isL] hp 0 0 (fun v hp' => v = none ∧ (qq_pt hp r1 (.inl (0, 11, .inl (r_X7_addA isL f)))) = hp') (fun _ _ => False) := by
  refine qq_met pn_X7 (Nat.le_of_ble_eq_true rfl) (Nat.le_of_ble_eq_true rfl) kc_X7_add ?_
  show qq_Go _ hp 0 0 0 [(0, .ref r1), (1, .ref r1), (2, .int isL)] [] _ _
  refine qq_hp (qq_pti hr1) ?_
  refine qq_iload_n dX7_add_0 rfl 2 rfl ?_
  refine qq_if_eq (tgt := 8) dX7_add_1 (by decide) (fun zc1 => ?_) (fun zc1 => ?_)
  · refine qq_lconst (v := 0) dX7_add_8 (by decide) ?_
    refine qq_lstore_n (loc' := [(0, .ref r1), (1, .ref r1), (2, .int isL), (3, .long 0)]) dX7_add_9 rfl [1, 2, 3, 0] (Nat.le_of_ble_eq_true rfl) rfl ?_
    refine qq_iconst (v := 0) dX7_add_10 (by decide) ?_
    refine qq_istore (loc' := [(0, .ref r1), (1, .ref r1), (2, .int isL), (3, .long 0), (5, .int 0)]) dX7_add_11 [1, 2, 3, 4, 0] (Nat.le_of_ble_eq_true rfl) rfl ?_
    have ze : r_X7_addA isL f = lr_X7_addA_13 isL 12 (0 : Int64) (0 : Int32) f := by
      rw [r_X7_addA, if_pos zc1]
    rw [ze]
    exact lq_X7_addA_13 hp isL r1 f hr1 hg1 12 (0 : Int64) (0 : Int32) f (by decide) (by decide)
  · refine qq_lconst (v := 1) dX7_add_4 (by decide) ?_
    refine qq_goto (tgt := 9) dX7_add_5 (by decide) ?_
    refine qq_lstore_n (loc' := [(0, .ref r1), (1, .ref r1), (2, .int isL), (3, .long 1)]) dX7_add_9 rfl [1, 2, 3, 0] (Nat.le_of_ble_eq_true rfl) rfl ?_
    refine qq_iconst (v := 0) dX7_add_10 (by decide) ?_
    refine qq_istore (loc' := [(0, .ref r1), (1, .ref r1), (2, .int isL), (3, .long 1), (5, .int 0)]) dX7_add_11 [1, 2, 3, 4, 0] (Nat.le_of_ble_eq_true rfl) rfl ?_
    have ze : r_X7_addA isL f = lr_X7_addA_13 isL 12 (1 : Int64) (0 : Int32) f := by
      rw [r_X7_addA, if_neg zc1]
    rw [ze]
    exact lq_X7_addA_13 hp isL r1 f hr1 hg1 12 (1 : Int64) (0 : Int32) f (by decide) (by decide)
def lr_X7_sum_8 (isL : Int32) (f : (Nat → Int32)) (g : (Nat → Int32)) : Nat → Int32 → (Nat → Int32) → (Nat → Int32)
  | 0, _, f1 => f1
  | fu + 1, k9, f1 => if 11 ≤ k9 then r_X7_add isL g f1 else lr_X7_sum_8 isL f g fu (k9 + 1) (upd f1 k9.toNatClampNeg (f k9.toNatClampNeg))
set_option maxRecDepth 4000 in
theorem lq_X7_sum_8 (hp : qq_H) (isL : Int32) (r1 : Nat) (r2 : Nat) (f : (Nat → Int32)) (g : (Nat → Int32)) (hr1 : hp.2 r1 = .inl (0, 11, .inl f)) (hr2 : hp.2 r2 = .inl (0, 11, .inl g)) (hl1 : r1 < hp.1) (hl2 : r2 < hp.1) (hE80 : 80 ≤ hp.1) : ∀ (fu : Nat) (k9 : Int32) (f1 : (Nat → Int32)), ¬ k9 < 0 → ((11 : Int32).toInt - k9.toInt).toNat < fu → qq_Go mX7_sum (qq_nw hp (.inl (0, 11, .inl f1))) 0 0 8 [(0, .ref r1), (1, .ref r2), (2, .int isL), (3, .ref hp.1), (4, .int k9)] [] (fun v hp' => v = some (.ref hp.1) ∧ (qq_nw hp (.inl (0, 11, .inl (lr_X7_sum_8 isL f g fu k9 f1)))) = hp') (fun _ _ => False)
  | 0, _, _, _, zz => absurd zz (Nat.not_lt_zero _)
  | fu + 1, k9, f1, zp, zh => by
    refine qq_iload dX7_sum_8 4 rfl ?_
    refine qq_bipush (v := 11) dX7_sum_10 (by decide) ?_
    refine qq_icmp_ge (tgt := 29) dX7_sum_12 (by decide) (fun zc1 => ?_) (fun zc1 => ?_)
    · refine qq_aload_n dX7_sum_29 rfl 3 rfl ?_
      refine qq_aload_n dX7_sum_30 rfl 1 rfl ?_
      refine qq_iload_n dX7_sum_31 rfl 2 rfl ?_
      refine qq_callS (bc := 0) (bs := 0) (mc := 0) (ms := 0) (as := [.ref hp.1, .ref r2, .int isL]) (rest := []) dX7_sum_32 (mt_X7_add (qq_nw hp (.inl (0, 11, .inl f1))) isL r2 hp.1 g f1 (qq_nwo hl2 hr2) (qq_nws) (by have := hE80; first | exact this | omega) (by show _ ≠ _; have := hl2; omega) ) rfl kl_X7_56 ks_X7_add ki_X7 kc_X7_add kd_X7_add rfl (by decide) (by decide) (Nat.le_of_ble_eq_true rfl) (fun v hp' hv _ _ => ?_) (fun E hp' zx _ _ => zx.elim)
      obtain ⟨rfl, rfl⟩ := hv
      refine qq_hp qq_pnw ?_
      show qq_Go _ (qq_nw hp (.inl (0, 11, .inl (r_X7_add isL g f1)))) 0 0 35 [(0, .ref r1), (1, .ref r2), (2, .int isL), (3, .ref hp.1), (4, .int k9)] [] _ _
      refine qq_aload_n dX7_sum_35 rfl 3 rfl ?_
      have ze : lr_X7_sum_8 isL f g (fu + 1) k9 f1 = r_X7_add isL g f1 := by
        rw [lr_X7_sum_8, if_pos zc1]
      exact qq_aret dX7_sum_36 rfl (Or.inr ⟨_, rfl⟩) (Or.inr ⟨_, rfl⟩) ⟨rfl, by rw [ze]⟩
    · refine qq_aload_n dX7_sum_15 rfl 3 rfl ?_
      refine qq_iload dX7_sum_16 4 rfl ?_
      refine qq_aload_n dX7_sum_18 rfl 0 rfl ?_
      refine qq_iload dX7_sum_19 4 rfl ?_
      refine qq_iald dX7_sum_21 (qq_nwo hl1 hr1) (qm_in11 (by assumption) (by assumption)) ?_
      show qq_Go _ (qq_nw hp (.inl (0, 11, .inl f1))) 0 0 22 [(0, .ref r1), (1, .ref r2), (2, .int isL), (3, .ref hp.1), (4, .int k9)] [.int (f k9.toNatClampNeg), .int k9, .ref hp.1] _ _
      refine qq_iast dX7_sum_22 (qq_nws) (by have := hE80; first | exact this | omega) (qm_in11 (by assumption) (by assumption)) ?_
      refine qq_hp qq_pnw ?_
      show qq_Go _ (qq_nw hp (.inl (0, 11, .inl (upd f1 k9.toNatClampNeg (f k9.toNatClampNeg))))) 0 0 23 [(0, .ref r1), (1, .ref r2), (2, .int isL), (3, .ref hp.1), (4, .int k9)] [] _ _
      refine qq_iinc (v := k9 + 1) (loc' := [(0, .ref r1), (1, .ref r2), (2, .int isL), (3, .ref hp.1), (4, .int (k9 + 1))]) dX7_sum_23 4 rfl rfl [1, 2, 3, 4, 0] (Nat.le_of_ble_eq_true rfl) rfl ?_
      refine qq_goto (tgt := 8) dX7_sum_26 (by decide) ?_
      have ze : lr_X7_sum_8 isL f g (fu + 1) k9 f1 = lr_X7_sum_8 isL f g fu (k9 + 1) (upd f1 k9.toNatClampNeg (f k9.toNatClampNeg)) := by
        rw [lr_X7_sum_8, if_neg zc1]
      rw [ze]
      exact lq_X7_sum_8 hp isL r1 r2 f g hr1 hr2 hl1 hl2 hE80 fu (k9 + 1) (upd f1 k9.toNatClampNeg (f k9.toNatClampNeg)) (qm_pos zp (by assumption)) (qm_up (by assumption) zh)
def r_X7_sum (isL : Int32) (f : (Nat → Int32)) (g : (Nat → Int32)) : (Nat → Int32) := lr_X7_sum_8 isL f g 12 (0 : Int32) (fun _ => 0)
set_option maxRecDepth 4000 in
theorem mt_X7_sum (hp : qq_H) (isL : Int32) (r1 : Nat) (r2 : Nat) (f : (Nat → Int32)) (g : (Nat → Int32)) (hr1 : hp.2 r1 = .inl (0, 11, .inl f)) (hr2 : hp.2 r2 = .inl (0, 11, .inl g)) (hl1 : r1 < hp.1) (hl2 : r2 < hp.1) (hE80 : 80 ≤ hp.1) : qq_Mt mX7_sum [.ref r1, .ref r2, .int isL] hp 1 11 (fun v hp' => v = some (.ref hp.1) ∧ (qq_nw hp (.inl (0, 11, .inl (r_X7_sum isL f g)))) = hp') (fun _ _ => False) := by
  refine qq_met pn_X7 (Nat.le_of_ble_eq_true rfl) (Nat.le_of_ble_eq_true rfl) kc_X7_sum ?_
  show qq_Go _ hp 1 11 0 [(0, .ref r1), (1, .ref r2), (2, .int isL)] [] _ _
  refine qq_bipush (v := 11) dX7_sum_0 (by decide) ?_
  refine qq_newI (bc := 0) (bs := 0) (N' := 11) (ms := 11) dX7_sum_2 (by decide) rfl (Nat.le_of_ble_eq_true rfl) (Nat.le_refl _) ?_ ka_int
  show qq_Go _ (qq_nw hp (.inl (0, 11, .inl (fun _ => 0)))) 0 0 4 [(0, .ref r1), (1, .ref r2), (2, .int isL)] [.ref hp.1] _ _
  refine qq_astore_n (loc' := [(0, .ref r1), (1, .ref r2), (2, .int isL), (3, .ref hp.1)]) dX7_sum_4 rfl [1, 2, 3, 0] (Nat.le_of_ble_eq_true rfl) rfl ?_
  refine qq_iconst (v := 0) dX7_sum_5 (by decide) ?_
  refine qq_istore (loc' := [(0, .ref r1), (1, .ref r2), (2, .int isL), (3, .ref hp.1), (4, .int 0)]) dX7_sum_6 [1, 2, 3, 4, 0] (Nat.le_of_ble_eq_true rfl) rfl ?_
  have ze : r_X7_sum isL f g = lr_X7_sum_8 isL f g 12 (0 : Int32) (fun _ => 0) := by
    rw [r_X7_sum]
  rw [ze]
  exact lq_X7_sum_8 hp isL r1 r2 f g hr1 hr2 hl1 hl2 hE80 12 (0 : Int32) (fun _ => 0) (by decide) (by decide)
def lr_X7_placed_19 (n9 : Int32) (pl9 : Int32)  : Nat → Int64 → Int32 → (Nat → Int32) → (Nat → Int32)
  | 0, _, _, f1 => f1
  | fu + 1, its9, k9, f1 => if 11 ≤ k9 then f1 else lr_X7_placed_19 n9 pl9 fu (its9 >>> ((32 : Int32).toInt64 &&& 63)) (k9 + 1) (upd f1 k9.toNatClampNeg its9.toInt32)
set_option maxRecDepth 4000 in
theorem lq_X7_placed_19 (hp : qq_H) (n9 : Int32) (pl9 : Int32)   (hE80 : 80 ≤ hp.1) (zpl : ¬ pl9 / 32 < 0) : ∀ (fu : Nat) (its9 : Int64) (k9 : Int32) (f1 : (Nat → Int32)), ¬ k9 < 0 → ((11 : Int32).toInt - k9.toInt).toNat < fu → qq_Go mX7_placed (qq_nw hp (.inl (0, 11, .inl f1))) 0 0 19 [(0, .int n9), (1, .int pl9), (2, .ref hp.1), (3, .long its9), (5, .int k9)] [] (fun v hp' => v = some (.ref hp.1) ∧ (qq_nw hp (.inl (0, 11, .inl (lr_X7_placed_19 n9 pl9 fu its9 k9 f1)))) = hp') (fun _ _ => False)
  | 0, _, _, _, _, zz => absurd zz (Nat.not_lt_zero _)
  | fu + 1, its9, k9, f1, zp, zh => by
    refine qq_iload dX7_placed_19 4 rfl ?_
    refine qq_bipush (v := 11) dX7_placed_21 (by decide) ?_
    refine qq_icmp_ge (tgt := 43) dX7_placed_23 (by decide) (fun zc1 => ?_) (fun zc1 => ?_)
    · refine qq_aload_n dX7_placed_43 rfl 2 rfl ?_
      have ze : lr_X7_placed_19 n9 pl9 (fu + 1) its9 k9 f1 = f1 := by
        rw [lr_X7_placed_19, if_pos zc1]
      exact qq_aret dX7_placed_44 rfl (Or.inr ⟨_, rfl⟩) (Or.inr ⟨_, rfl⟩) ⟨rfl, by rw [ze]⟩
    · refine qq_aload_n dX7_placed_26 rfl 2 rfl ?_
      refine qq_iload dX7_placed_27 4 rfl ?_
      refine qq_lload_n dX7_placed_29 rfl 3 rfl ?_
      refine qq_l2i dX7_placed_30 ?_
      refine qq_iast dX7_placed_31 (qq_nws) (by have := hE80; first | exact this | omega) (qm_in11 (by assumption) (by assumption)) ?_
      refine qq_hp qq_pnw ?_
      show qq_Go _ (qq_nw hp (.inl (0, 11, .inl (upd f1 k9.toNatClampNeg its9.toInt32)))) 0 0 32 [(0, .int n9), (1, .int pl9), (2, .ref hp.1), (3, .long its9), (5, .int k9)] [] _ _
      refine qq_lload_n dX7_placed_32 rfl 3 rfl ?_
      refine qq_bipush (v := 32) dX7_placed_33 (by decide) ?_
      refine qq_lshr dX7_placed_35 ?_
      refine qq_lstore_n (loc' := [(0, .int n9), (1, .int pl9), (2, .ref hp.1), (3, .long (its9 >>> ((32 : Int32).toInt64 &&& 63))), (5, .int k9)]) dX7_placed_36 rfl [1, 2, 3, 0, 4] (Nat.le_of_ble_eq_true rfl) rfl ?_
      refine qq_iinc (v := k9 + 1) (loc' := [(0, .int n9), (1, .int pl9), (2, .ref hp.1), (3, .long (its9 >>> ((32 : Int32).toInt64 &&& 63))), (5, .int (k9 + 1))]) dX7_placed_37 4 rfl rfl [1, 2, 3, 4, 0] (Nat.le_of_ble_eq_true rfl) rfl ?_
      refine qq_goto (tgt := 19) dX7_placed_40 (by decide) ?_
      have ze : lr_X7_placed_19 n9 pl9 (fu + 1) its9 k9 f1 = lr_X7_placed_19 n9 pl9 fu (its9 >>> ((32 : Int32).toInt64 &&& 63)) (k9 + 1) (upd f1 k9.toNatClampNeg its9.toInt32) := by
        rw [lr_X7_placed_19, if_neg zc1]
      rw [ze]
      exact lq_X7_placed_19 hp n9 pl9 hE80 zpl fu (its9 >>> ((32 : Int32).toInt64 &&& 63)) (k9 + 1) (upd f1 k9.toNatClampNeg its9.toInt32) (qm_pos zp (by assumption)) (qm_up (by assumption) zh)
def r_X7_placed (n9 : Int32) (pl9 : Int32)  : (Nat → Int32) := lr_X7_placed_19 n9 pl9 12 (n9.toInt64 <<< ((pl9 - pl9 / 32 * 32).toInt64 &&& 63)) (pl9 / 32) (fun _ => 0)
set_option maxRecDepth 4000 in
theorem mt_X7_placed (hp : qq_H) (n9 : Int32) (pl9 : Int32)   (hE80 : 80 ≤ hp.1) (zpl : ¬ pl9 / 32 < 0) : qq_Mt mX7_placed [.int n9, .int pl9] hp 1 11 (fun v hp' => v = some (.ref hp.1) ∧ (qq_nw hp (.inl (0, 11, .inl (r_X7_placed n9 pl9)))) = hp') (fun _ _ => False) := by
  refine qq_met pn_X7 (Nat.le_of_ble_eq_true rfl) (Nat.le_of_ble_eq_true rfl) kc_X7_placed ?_
  show qq_Go _ hp 1 11 0 [(0, .int n9), (1, .int pl9)] [] _ _
  refine qq_bipush (v := 11) dX7_placed_0 (by decide) ?_
  refine qq_newI (bc := 0) (bs := 0) (N' := 11) (ms := 11) dX7_placed_2 (by decide) rfl (Nat.le_of_ble_eq_true rfl) (Nat.le_refl _) ?_ ka_int
  show qq_Go _ (qq_nw hp (.inl (0, 11, .inl (fun _ => 0)))) 0 0 4 [(0, .int n9), (1, .int pl9)] [.ref hp.1] _ _
  refine qq_astore_n (loc' := [(0, .int n9), (1, .int pl9), (2, .ref hp.1)]) dX7_placed_4 rfl [1, 2, 0] (Nat.le_of_ble_eq_true rfl) rfl ?_
  refine qq_iload_n dX7_placed_5 rfl 0 rfl ?_
  refine qq_i2l dX7_placed_6 ?_
  refine qq_iload_n dX7_placed_7 rfl 1 rfl ?_
  refine qq_bipush (v := 32) dX7_placed_8 (by decide) ?_
  refine qq_irem dX7_placed_10 (by decide) ?_
  refine qq_lshl dX7_placed_11 ?_
  refine qq_lstore_n (loc' := [(0, .int n9), (1, .int pl9), (2, .ref hp.1), (3, .long (n9.toInt64 <<< ((pl9 - pl9 / 32 * 32).toInt64 &&& 63)))]) dX7_placed_12 rfl [1, 2, 3, 0] (Nat.le_of_ble_eq_true rfl) rfl ?_
  refine qq_iload_n dX7_placed_13 rfl 1 rfl ?_
  refine qq_bipush (v := 32) dX7_placed_14 (by decide) ?_
  refine qq_idiv dX7_placed_16 (by decide) ?_
  refine qq_istore (loc' := [(0, .int n9), (1, .int pl9), (2, .ref hp.1), (3, .long (n9.toInt64 <<< ((pl9 - pl9 / 32 * 32).toInt64 &&& 63))), (5, .int (pl9 / 32))]) dX7_placed_17 [1, 2, 3, 4, 0] (Nat.le_of_ble_eq_true rfl) rfl ?_
  have ze : r_X7_placed n9 pl9  = lr_X7_placed_19 n9 pl9 12 (n9.toInt64 <<< ((pl9 - pl9 / 32 * 32).toInt64 &&& 63)) (pl9 / 32) (fun _ => 0) := by
    rw [r_X7_placed]
  rw [ze]
  exact lq_X7_placed_19 hp n9 pl9 hE80 zpl 12 (n9.toInt64 <<< ((pl9 - pl9 / 32 * 32).toInt64 &&& 63)) (pl9 / 32) (fun _ => 0) (by assumption) (qm_t11 (by assumption))
def r_X7_quarterOf (q9 : Int32)  : (Nat → Int32) := r_X7_placed q9 (254 : Int32) 
set_option maxRecDepth 4000 in
theorem mt_X7_quarterOf (hp : qq_H) (q9 : Int32)   (hE80 : 80 ≤ hp.1) : qq_Mt mX7_quarterOf [.int q9] hp 1 11 (fun v hp' => v = some (.ref hp.1) ∧ (qq_nw hp (.inl (0, 11, .inl (r_X7_quarterOf q9)))) = hp') (fun _ _ => False) := by
  refine qq_met pn_X7 (Nat.le_of_ble_eq_true rfl) (Nat.le_of_ble_eq_true rfl) kc_X7_quarterOf ?_
  show qq_Go _ hp 1 11 0 [(0, .int q9)] [] _ _
  refine qq_iload_n dX7_quarterOf_0 rfl 0 rfl ?_
  refine qq_sipush (v := 254) dX7_quarterOf_1 (by decide) ?_
  refine qq_callS (bc := 0) (bs := 0) (mc := 1) (ms := 11) (as := [.int q9, .int 254]) (rest := []) dX7_quarterOf_4 (mt_X7_placed hp q9 (254 : Int32)   (by first | exact hE80 | (simp only [qq_nw1, qq_pt1]; omega)) (by decide)) rfl kl_X7_78 ks_X7_placed ki_X7 kc_X7_placed kd_X7_placed rfl (by decide) (by decide) (Nat.le_of_ble_eq_true rfl) (fun v hp' hv _ _ => ?_) (fun E hp' zx _ _ => zx.elim)
  obtain ⟨rfl, rfl⟩ := hv
  show qq_Go _ (qq_nw hp (.inl (0, 11, .inl (r_X7_placed q9 (254 : Int32) )))) 0 0 7 [(0, .int q9)] [.ref hp.1] _ _
  have ze : r_X7_quarterOf q9  = r_X7_placed q9 (254 : Int32)  := by
    rw [r_X7_quarterOf]
  exact qq_aret dX7_quarterOf_7 rfl (Or.inr ⟨_, rfl⟩) (Or.inr ⟨_, rfl⟩) ⟨rfl, by rw [ze]⟩
def lr_X7_compare_27  (f : (Nat → Int32)) (g : (Nat → Int32)) : Nat → Int32 → Int32
  | 0, _ => 0
  | fu + 1, k9 => if k9 ≤ 0 then f_J13_compare_74951 (((f k9.toNatClampNeg).toInt64) &&& 4294967295) (((g k9.toNatClampNeg).toInt64) &&& 4294967295) else if (f k9.toNatClampNeg) = (g k9.toNatClampNeg) then lr_X7_compare_27 f g fu (k9 + (-1))  else f_J13_compare_74951 (((f k9.toNatClampNeg).toInt64) &&& 4294967295) (((g k9.toNatClampNeg).toInt64) &&& 4294967295)
set_option maxRecDepth 4000 in
theorem lq_X7_compare_27 (hp : qq_H)  (r1 : Nat) (r2 : Nat) (f : (Nat → Int32)) (g : (Nat → Int32)) (hr1 : hp.2 r1 = .inl (0, 11, .inl f)) (hr2 : hp.2 r2 = .inl (0, 11, .inl g)) : ∀ (fu : Nat) (k9 : Int32) , vp_in k9 11 → k9.toInt.toNat < fu → qq_Go mX7_compare hp 0 0 27 [(0, .ref r1), (1, .ref r2), (2, .int k9)] [] (fun v hp' => v = some (.int (lr_X7_compare_27 f g fu k9 )) ∧ hp = hp') (fun _ _ => False)
  | 0, _, _, zz => absurd zz (Nat.not_lt_zero _)
  | fu + 1, k9, zk, zh => by
    refine qq_iload_n dX7_compare_27 rfl 2 rfl ?_
    refine qq_if_le (tgt := 46) dX7_compare_28 (by decide) (fun zc1 => ?_) (fun zc1 => ?_)
    · refine qq_aload_n dX7_compare_46 rfl 0 rfl ?_
      refine qq_iload_n dX7_compare_47 rfl 2 rfl ?_
      refine qq_iald dX7_compare_48 hr1 (by first | exact qm_in11 (by assumption) (by assumption) | assumption | exact qm_in11 (by decide) (by decide)) ?_
      show qq_Go _ hp 0 0 49 [(0, .ref r1), (1, .ref r2), (2, .int k9)] [.int (f k9.toNatClampNeg)] _ _
      refine qq_i2l dX7_compare_49 ?_
      refine qq_ldc2 (v := 4294967295) dX7_compare_50 kl_X7_54 ?_
      refine qq_land dX7_compare_53 ?_
      refine qq_aload_n dX7_compare_54 rfl 1 rfl ?_
      refine qq_iload_n dX7_compare_55 rfl 2 rfl ?_
      refine qq_iald dX7_compare_56 hr2 (by first | exact qm_in11 (by assumption) (by assumption) | assumption | exact qm_in11 (by decide) (by decide)) ?_
      show qq_Go _ hp 0 0 57 [(0, .ref r1), (1, .ref r2), (2, .int k9)] [.int (g k9.toNatClampNeg), .long (((f k9.toNatClampNeg).toInt64) &&& 4294967295)] _ _
      refine qq_i2l dX7_compare_57 ?_
      refine qq_ldc2 (v := 4294967295) dX7_compare_58 kl_X7_54 ?_
      refine qq_land dX7_compare_61 ?_
      refine qq_callS (bc := 0) (bs := 0) (mc := 0) (ms := 0) (as := [.long (((f k9.toNatClampNeg).toInt64) &&& 4294967295), .long (((g k9.toNatClampNeg).toInt64) &&& 4294967295)]) (rest := []) dX7_compare_62 (mt_J13_compare_74951 hp (((f k9.toNatClampNeg).toInt64) &&& 4294967295) (((g k9.toNatClampNeg).toInt64) &&& 4294967295)) rfl kl_X7_91 ks_J13_compare_74951 ki_J13 kc_J13_compare_74951 kd_J13_compare_74951 rfl (by decide) (by decide) (Nat.le_of_ble_eq_true rfl) (fun v hp' hv _ _ => ?_) (fun E hp' zx _ _ => zx.elim)
      obtain ⟨rfl, rfl⟩ := hv
      show qq_Go _ hp 0 0 65 [(0, .ref r1), (1, .ref r2), (2, .int k9)] [.int (f_J13_compare_74951 (((f k9.toNatClampNeg).toInt64) &&& 4294967295) (((g k9.toNatClampNeg).toInt64) &&& 4294967295))] _ _
      have ze : lr_X7_compare_27 f g (fu + 1) k9  = f_J13_compare_74951 (((f k9.toNatClampNeg).toInt64) &&& 4294967295) (((g k9.toNatClampNeg).toInt64) &&& 4294967295) := by
        rw [lr_X7_compare_27, if_pos zc1]
      exact qq_iret dX7_compare_65 rfl rfl ⟨by rw [ze], rfl⟩
    · refine qq_aload_n dX7_compare_31 rfl 0 rfl ?_
      refine qq_iload_n dX7_compare_32 rfl 2 rfl ?_
      refine qq_iald dX7_compare_33 hr1 (by first | exact qm_in11 (by assumption) (by assumption) | assumption | exact qm_in11 (by decide) (by decide)) ?_
      show qq_Go _ hp 0 0 34 [(0, .ref r1), (1, .ref r2), (2, .int k9)] [.int (f k9.toNatClampNeg)] _ _
      refine qq_aload_n dX7_compare_34 rfl 1 rfl ?_
      refine qq_iload_n dX7_compare_35 rfl 2 rfl ?_
      refine qq_iald dX7_compare_36 hr2 (by first | exact qm_in11 (by assumption) (by assumption) | assumption | exact qm_in11 (by decide) (by decide)) ?_
      show qq_Go _ hp 0 0 37 [(0, .ref r1), (1, .ref r2), (2, .int k9)] [.int (g k9.toNatClampNeg), .int (f k9.toNatClampNeg)] _ _
      refine qq_icmp_ne (tgt := 46) dX7_compare_37 (by decide) (fun zc2 => ?_) (fun zc2 => ?_)
      · refine qq_aload_n dX7_compare_46 rfl 0 rfl ?_
        refine qq_iload_n dX7_compare_47 rfl 2 rfl ?_
        refine qq_iald dX7_compare_48 hr1 (by first | exact qm_in11 (by assumption) (by assumption) | assumption | exact qm_in11 (by decide) (by decide)) ?_
        show qq_Go _ hp 0 0 49 [(0, .ref r1), (1, .ref r2), (2, .int k9)] [.int (f k9.toNatClampNeg)] _ _
        refine qq_i2l dX7_compare_49 ?_
        refine qq_ldc2 (v := 4294967295) dX7_compare_50 kl_X7_54 ?_
        refine qq_land dX7_compare_53 ?_
        refine qq_aload_n dX7_compare_54 rfl 1 rfl ?_
        refine qq_iload_n dX7_compare_55 rfl 2 rfl ?_
        refine qq_iald dX7_compare_56 hr2 (by first | exact qm_in11 (by assumption) (by assumption) | assumption | exact qm_in11 (by decide) (by decide)) ?_
        show qq_Go _ hp 0 0 57 [(0, .ref r1), (1, .ref r2), (2, .int k9)] [.int (g k9.toNatClampNeg), .long (((f k9.toNatClampNeg).toInt64) &&& 4294967295)] _ _
        refine qq_i2l dX7_compare_57 ?_
        refine qq_ldc2 (v := 4294967295) dX7_compare_58 kl_X7_54 ?_
        refine qq_land dX7_compare_61 ?_
        refine qq_callS (bc := 0) (bs := 0) (mc := 0) (ms := 0) (as := [.long (((f k9.toNatClampNeg).toInt64) &&& 4294967295), .long (((g k9.toNatClampNeg).toInt64) &&& 4294967295)]) (rest := []) dX7_compare_62 (mt_J13_compare_74951 hp (((f k9.toNatClampNeg).toInt64) &&& 4294967295) (((g k9.toNatClampNeg).toInt64) &&& 4294967295)) rfl kl_X7_91 ks_J13_compare_74951 ki_J13 kc_J13_compare_74951 kd_J13_compare_74951 rfl (by decide) (by decide) (Nat.le_of_ble_eq_true rfl) (fun v hp' hv _ _ => ?_) (fun E hp' zx _ _ => zx.elim)
        obtain ⟨rfl, rfl⟩ := hv
        show qq_Go _ hp 0 0 65 [(0, .ref r1), (1, .ref r2), (2, .int k9)] [.int (f_J13_compare_74951 (((f k9.toNatClampNeg).toInt64) &&& 4294967295) (((g k9.toNatClampNeg).toInt64) &&& 4294967295))] _ _
        have ze : lr_X7_compare_27 f g (fu + 1) k9  = f_J13_compare_74951 (((f k9.toNatClampNeg).toInt64) &&& 4294967295) (((g k9.toNatClampNeg).toInt64) &&& 4294967295) := by
          rw [lr_X7_compare_27, if_neg zc1, if_neg zc2]
        exact qq_iret dX7_compare_65 rfl rfl ⟨by rw [ze], rfl⟩
      · refine qq_iinc (v := k9 + (-1)) (loc' := [(0, .ref r1), (1, .ref r2), (2, .int (k9 + (-1)))]) dX7_compare_40 2 rfl rfl [1, 2, 0] (Nat.le_of_ble_eq_true rfl) rfl ?_
        refine qq_goto (tgt := 27) dX7_compare_43 (by decide) ?_
        have ze : lr_X7_compare_27 f g (fu + 1) k9  = lr_X7_compare_27 f g fu (k9 + (-1))  := by
          rw [lr_X7_compare_27, if_neg zc1, if_pos zc2]
        rw [ze]
        exact lq_X7_compare_27 hp r1 r2 f g hr1 hr2 fu (k9 + (-1)) (qm_in11e (by assumption) zk) (qm_dn (by assumption) zh)
def r_X7_compare  (f : (Nat → Int32)) (g : (Nat → Int32)) : Int32 := if (f (10 : Int32).toNatClampNeg) = (g (10 : Int32).toNatClampNeg) then lr_X7_compare_27 f g 11 (10 : Int32)  else if (g (10 : Int32).toNatClampNeg) ≤ (f (10 : Int32).toNatClampNeg) then 1 else (-1)
set_option maxRecDepth 4000 in
theorem mt_X7_compare (hp : qq_H)  (r1 : Nat) (r2 : Nat) (f : (Nat → Int32)) (g : (Nat → Int32)) (hr1 : hp.2 r1 = .inl (0, 11, .inl f)) (hr2 : hp.2 r2 = .inl (0, 11, .inl g)) : qq_Mt mX7_compare [.ref r1, .ref r2] hp 0 0 (fun v hp' => v = some (.int (r_X7_compare f g)) ∧ hp = hp') (fun _ _ => False) := by
  refine qq_met pn_X7 (Nat.le_of_ble_eq_true rfl) (Nat.le_of_ble_eq_true rfl) kc_X7_compare ?_
  show qq_Go _ hp 0 0 0 [(0, .ref r1), (1, .ref r2)] [] _ _
  refine qq_bipush (v := 10) dX7_compare_0 (by decide) ?_
  refine qq_istore_n (loc' := [(0, .ref r1), (1, .ref r2), (2, .int 10)]) dX7_compare_2 rfl [1, 2, 0] (Nat.le_of_ble_eq_true rfl) rfl ?_
  refine qq_aload_n dX7_compare_3 rfl 0 rfl ?_
  refine qq_iload_n dX7_compare_4 rfl 2 rfl ?_
  refine qq_iald dX7_compare_5 hr1 (by first | exact qm_in11 (by assumption) (by assumption) | assumption | exact qm_in11 (by decide) (by decide)) ?_
  show qq_Go _ hp 0 0 6 [(0, .ref r1), (1, .ref r2), (2, .int 10)] [.int (f (10 : Int32).toNatClampNeg)] _ _
  refine qq_aload_n dX7_compare_6 rfl 1 rfl ?_
  refine qq_iload_n dX7_compare_7 rfl 2 rfl ?_
  refine qq_iald dX7_compare_8 hr2 (by first | exact qm_in11 (by assumption) (by assumption) | assumption | exact qm_in11 (by decide) (by decide)) ?_
  show qq_Go _ hp 0 0 9 [(0, .ref r1), (1, .ref r2), (2, .int 10)] [.int (g (10 : Int32).toNatClampNeg), .int (f (10 : Int32).toNatClampNeg)] _ _
  refine qq_icmp_eq (tgt := 27) dX7_compare_9 (by decide) (fun zc1 => ?_) (fun zc1 => ?_)
  · have ze : r_X7_compare f g = lr_X7_compare_27 f g 11 (10 : Int32)  := by
      rw [r_X7_compare, if_pos zc1]
    rw [ze]
    exact lq_X7_compare_27 hp r1 r2 f g hr1 hr2 11 (10 : Int32) (qm_in11 (by decide) (by decide)) (by decide)
  · refine qq_aload_n dX7_compare_12 rfl 0 rfl ?_
    refine qq_iload_n dX7_compare_13 rfl 2 rfl ?_
    refine qq_iald dX7_compare_14 hr1 (by first | exact qm_in11 (by assumption) (by assumption) | assumption | exact qm_in11 (by decide) (by decide)) ?_
    show qq_Go _ hp 0 0 15 [(0, .ref r1), (1, .ref r2), (2, .int 10)] [.int (f (10 : Int32).toNatClampNeg)] _ _
    refine qq_aload_n dX7_compare_15 rfl 1 rfl ?_
    refine qq_iload_n dX7_compare_16 rfl 2 rfl ?_
    refine qq_iald dX7_compare_17 hr2 (by first | exact qm_in11 (by assumption) (by assumption) | assumption | exact qm_in11 (by decide) (by decide)) ?_
    show qq_Go _ hp 0 0 18 [(0, .ref r1), (1, .ref r2), (2, .int 10)] [.int (g (10 : Int32).toNatClampNeg), .int (f (10 : Int32).toNatClampNeg)] _ _
    refine qq_icmp_ge (tgt := 25) dX7_compare_18 (by decide) (fun zc2 => ?_) (fun zc2 => ?_)
    · refine qq_iconst (v := 1) dX7_compare_25 (by decide) ?_
      have ze : r_X7_compare f g = 1 := by
        rw [r_X7_compare, if_neg zc1, if_pos zc2]
      exact qq_iret dX7_compare_26 rfl rfl ⟨by rw [ze], rfl⟩
    · refine qq_iconst (v := (-1)) dX7_compare_21 (by decide) ?_
      refine qq_goto (tgt := 26) dX7_compare_22 (by decide) ?_
      have ze : r_X7_compare f g = (-1) := by
        rw [r_X7_compare, if_neg zc1, if_neg zc2]
      exact qq_iret dX7_compare_26 rfl rfl ⟨by rw [ze], rfl⟩
def r_X7_digitAt (pl9 : Int32) (f : (Nat → Int32)) : Int32 := if 352 ≤ pl9 then if 0 ≤ (f (10 : Int32).toNatClampNeg) then 0 else 1 else ((f (pl9 / 32).toNatClampNeg) >>> ((pl9 - pl9 / 32 * 32) &&& 31)) &&& 1
set_option maxRecDepth 4000 in
theorem mt_X7_digitAt (hp : qq_H) (pl9 : Int32) (r1 : Nat) (f : (Nat → Int32)) (hr1 : hp.2 r1 = .inl (0, 11, .inl f)) (zpl : ¬ pl9 / 32 < 0) : qq_Mt mX7_digitAt [.ref r1, .int pl9] hp 0 0 (fun v hp' => v = some (.int (r_X7_digitAt pl9 f)) ∧ hp = hp') (fun _ _ => False) := by
  refine qq_met pn_X7 (Nat.le_of_ble_eq_true rfl) (Nat.le_of_ble_eq_true rfl) kc_X7_digitAt ?_
  show qq_Go _ hp 0 0 0 [(0, .ref r1), (1, .int pl9)] [] _ _
  refine qq_iload_n dX7_digitAt_0 rfl 1 rfl ?_
  refine qq_sipush (v := 352) dX7_digitAt_1 (by decide) ?_
  refine qq_icmp_ge (tgt := 23) dX7_digitAt_4 (by decide) (fun zc1 => ?_) (fun zc1 => ?_)
  · refine qq_aload_n dX7_digitAt_23 rfl 0 rfl ?_
    refine qq_bipush (v := 10) dX7_digitAt_24 (by decide) ?_
    refine qq_iald dX7_digitAt_26 hr1 (by first | exact qm_in11 (by assumption) (by assumption) | assumption | exact qm_in11 (by decide) (by decide)) ?_
    show qq_Go _ hp 0 0 27 [(0, .ref r1), (1, .int pl9)] [.int (f (10 : Int32).toNatClampNeg)] _ _
    refine qq_if_ge (tgt := 34) dX7_digitAt_27 (by decide) (fun zc2 => ?_) (fun zc2 => ?_)
    · refine qq_iconst (v := 0) dX7_digitAt_34 (by decide) ?_
      have ze : r_X7_digitAt pl9 f = 0 := by
        rw [r_X7_digitAt, if_pos zc1, if_pos zc2]
      exact qq_iret dX7_digitAt_35 rfl rfl ⟨by rw [ze], rfl⟩
    · refine qq_iconst (v := 1) dX7_digitAt_30 (by decide) ?_
      refine qq_goto (tgt := 35) dX7_digitAt_31 (by decide) ?_
      have ze : r_X7_digitAt pl9 f = 1 := by
        rw [r_X7_digitAt, if_pos zc1, if_neg zc2]
      exact qq_iret dX7_digitAt_35 rfl rfl ⟨by rw [ze], rfl⟩
  · refine qq_aload_n dX7_digitAt_7 rfl 0 rfl ?_
    refine qq_iload_n dX7_digitAt_8 rfl 1 rfl ?_
    refine qq_bipush (v := 32) dX7_digitAt_9 (by decide) ?_
    refine qq_idiv dX7_digitAt_11 (by decide) ?_
    refine qq_iald dX7_digitAt_12 hr1 (qm_in11 zpl (qm_pl (by assumption))) ?_
    show qq_Go _ hp 0 0 13 [(0, .ref r1), (1, .int pl9)] [.int (f (pl9 / 32).toNatClampNeg)] _ _
    refine qq_iload_n dX7_digitAt_13 rfl 1 rfl ?_
    refine qq_bipush (v := 32) dX7_digitAt_14 (by decide) ?_
    refine qq_irem dX7_digitAt_16 (by decide) ?_
    refine qq_ishr dX7_digitAt_17 ?_
    refine qq_iconst (v := 1) dX7_digitAt_18 (by decide) ?_
    refine qq_iand dX7_digitAt_19 ?_
    refine qq_goto (tgt := 35) dX7_digitAt_20 (by decide) ?_
    have ze : r_X7_digitAt pl9 f = ((f (pl9 / 32).toNatClampNeg) >>> ((pl9 - pl9 / 32 * 32) &&& 31)) &&& 1 := by
      rw [r_X7_digitAt, if_neg zc1]
    exact qq_iret dX7_digitAt_35 rfl rfl ⟨by rw [ze], rfl⟩
def lr_X7_digitsFrom_5 (pl9 : Int32) (f : (Nat → Int32)) : Nat → Int32 → Int32 → Int32
  | 0, _, _ => 0
  | fu + 1, md9, k9 => if k9 < 0 then md9 else lr_X7_digitsFrom_5 pl9 f fu ((2 * md9) + (r_X7_digitAt (pl9 + k9) f)) (k9 + (-1)) 
set_option maxRecDepth 4000 in
theorem lq_X7_digitsFrom_5 (hp : qq_H) (pl9 : Int32) (r1 : Nat) (f : (Nat → Int32)) (hr1 : hp.2 r1 = .inl (0, 11, .inl f)) (zq0 : 0 ≤ pl9.toInt) (zq1 : pl9.toInt ≤ 1000) : ∀ (fu : Nat) (md9 : Int32) (k9 : Int32) , k9.toInt < (32 : Nat) → (k9.toInt + 1).toNat < fu → qq_Go mX7_digitsFrom hp 0 0 5 [(0, .ref r1), (1, .int pl9), (2, .int md9), (3, .int k9)] [] (fun v hp' => v = some (.int (lr_X7_digitsFrom_5 pl9 f fu md9 k9 )) ∧ hp = hp') (fun _ _ => False)
  | 0, _, _, _, zz => absurd zz (Nat.not_lt_zero _)
  | fu + 1, md9, k9, zu, zh => by
    refine qq_iload_n dX7_digitsFrom_5 rfl 3 rfl ?_
    refine qq_if_lt (tgt := 27) dX7_digitsFrom_6 (by decide) (fun zc1 => ?_) (fun zc1 => ?_)
    · refine qq_iload_n dX7_digitsFrom_27 rfl 2 rfl ?_
      have ze : lr_X7_digitsFrom_5 pl9 f (fu + 1) md9 k9  = md9 := by
        rw [lr_X7_digitsFrom_5, if_pos zc1]
      exact qq_iret dX7_digitsFrom_28 rfl rfl ⟨by rw [ze], rfl⟩
    · refine qq_iconst (v := 2) dX7_digitsFrom_9 (by decide) ?_
      refine qq_iload_n dX7_digitsFrom_10 rfl 2 rfl ?_
      refine qq_imul dX7_digitsFrom_11 ?_
      refine qq_aload_n dX7_digitsFrom_12 rfl 0 rfl ?_
      refine qq_iload_n dX7_digitsFrom_13 rfl 1 rfl ?_
      refine qq_iload_n dX7_digitsFrom_14 rfl 3 rfl ?_
      refine qq_iadd dX7_digitsFrom_15 ?_
      refine qq_callS (bc := 0) (bs := 0) (mc := 0) (ms := 0) (as := [.ref r1, .int (pl9 + k9)]) (rest := [.int (2 * md9)]) dX7_digitsFrom_16 (mt_X7_digitAt hp (pl9 + k9) r1 f hr1 (qm_plk zq0 zq1 (by assumption) zu)) rfl kl_X7_97 ks_X7_digitAt ki_X7 kc_X7_digitAt kd_X7_digitAt rfl (by decide) (by decide) (Nat.le_of_ble_eq_true rfl) (fun v hp' hv _ _ => ?_) (fun E hp' zx _ _ => zx.elim)
      obtain ⟨rfl, rfl⟩ := hv
      show qq_Go _ hp 0 0 19 [(0, .ref r1), (1, .int pl9), (2, .int md9), (3, .int k9)] [.int (r_X7_digitAt (pl9 + k9) f), .int (2 * md9)] _ _
      refine qq_iadd dX7_digitsFrom_19 ?_
      refine qq_istore_n (loc' := [(0, .ref r1), (1, .int pl9), (2, .int ((2 * md9) + (r_X7_digitAt (pl9 + k9) f))), (3, .int k9)]) dX7_digitsFrom_20 rfl [1, 2, 0, 3] (Nat.le_of_ble_eq_true rfl) rfl ?_
      refine qq_iinc (v := k9 + (-1)) (loc' := [(0, .ref r1), (1, .int pl9), (2, .int ((2 * md9) + (r_X7_digitAt (pl9 + k9) f))), (3, .int (k9 + (-1)))]) dX7_digitsFrom_21 3 rfl rfl [1, 2, 3, 0] (Nat.le_of_ble_eq_true rfl) rfl ?_
      refine qq_goto (tgt := 5) dX7_digitsFrom_24 (by decide) ?_
      have ze : lr_X7_digitsFrom_5 pl9 f (fu + 1) md9 k9  = lr_X7_digitsFrom_5 pl9 f fu ((2 * md9) + (r_X7_digitAt (pl9 + k9) f)) (k9 + (-1))  := by
        rw [lr_X7_digitsFrom_5, if_neg zc1]
      rw [ze]
      exact lq_X7_digitsFrom_5 hp pl9 r1 f hr1 zq0 zq1 fu ((2 * md9) + (r_X7_digitAt (pl9 + k9) f)) (k9 + (-1)) (qm_dnU (by assumption) zu) (qm_dnI (by assumption) zh)
def r_X7_digitsFrom (pl9 : Int32) (f : (Nat → Int32)) : Int32 := lr_X7_digitsFrom_5 pl9 f 33 (0 : Int32) (31 : Int32) 
set_option maxRecDepth 4000 in
theorem mt_X7_digitsFrom (hp : qq_H) (pl9 : Int32) (r1 : Nat) (f : (Nat → Int32)) (hr1 : hp.2 r1 = .inl (0, 11, .inl f)) (zq0 : 0 ≤ pl9.toInt) (zq1 : pl9.toInt ≤ 1000) : qq_Mt mX7_digitsFrom [.ref r1, .int pl9] hp 0 0 (fun v hp' => v = some (.int (r_X7_digitsFrom pl9 f)) ∧ hp = hp') (fun _ _ => False) := by
  refine qq_met pn_X7 (Nat.le_of_ble_eq_true rfl) (Nat.le_of_ble_eq_true rfl) kc_X7_digitsFrom ?_
  show qq_Go _ hp 0 0 0 [(0, .ref r1), (1, .int pl9)] [] _ _
  refine qq_iconst (v := 0) dX7_digitsFrom_0 (by decide) ?_
  refine qq_istore_n (loc' := [(0, .ref r1), (1, .int pl9), (2, .int 0)]) dX7_digitsFrom_1 rfl [1, 2, 0] (Nat.le_of_ble_eq_true rfl) rfl ?_
  refine qq_bipush (v := 31) dX7_digitsFrom_2 (by decide) ?_
  refine qq_istore_n (loc' := [(0, .ref r1), (1, .int pl9), (2, .int 0), (3, .int 31)]) dX7_digitsFrom_4 rfl [1, 2, 3, 0] (Nat.le_of_ble_eq_true rfl) rfl ?_
  have ze : r_X7_digitsFrom pl9 f = lr_X7_digitsFrom_5 pl9 f 33 (0 : Int32) (31 : Int32)  := by
    rw [r_X7_digitsFrom]
  rw [ze]
  exact lq_X7_digitsFrom_5 hp pl9 r1 f hr1 zq0 zq1 33 (0 : Int32) (31 : Int32) (by decide) (by decide)
def lr_X7_isInt_5 (pl9 : Int32) (f : (Nat → Int32)) : Nat → Int32 → Int32
  | 0, _ => 0
  | fu + 1, k9 => if 352 ≤ k9 then 1 else if (r_X7_digitAt k9 f) = (r_X7_digitAt (352 : Int32) f) then lr_X7_isInt_5 pl9 f fu (k9 + 1)  else 0
theorem bzl_X7_isInt_5 (pl9 : Int32) (f : (Nat → Int32)) : ∀ (fu : Nat) (k9 : Int32), lr_X7_isInt_5 pl9 f fu k9  = 0 ∨ lr_X7_isInt_5 pl9 f fu k9  = 1
  | 0, _ => Or.inl rfl
  | fu + 1, k9 => by
    unfold lr_X7_isInt_5
    exact (qq_i01 (Or.inr rfl) (qq_i01 (bzl_X7_isInt_5 pl9 f fu (k9 + 1) ) (Or.inl rfl)))
set_option maxRecDepth 4000 in
theorem lq_X7_isInt_5 (hp : qq_H) (pl9 : Int32) (r1 : Nat) (f : (Nat → Int32)) (hr1 : hp.2 r1 = .inl (0, 11, .inl f)) (zq0 : 0 ≤ pl9.toInt) (zq1 : pl9.toInt ≤ 1000) : ∀ (fu : Nat) (k9 : Int32) , 0 ≤ k9.toInt → ((352 : Int32).toInt - k9.toInt).toNat < fu → qq_Go mX7_isInt hp 0 0 5 [(0, .ref r1), (1, .int pl9), (2, .int k9)] [] (fun v hp' => v = some (.int (lr_X7_isInt_5 pl9 f fu k9 )) ∧ hp = hp') (fun _ _ => False)
  | 0, _, _, zz => absurd zz (Nat.not_lt_zero _)
  | fu + 1, k9, zp, zh => by
    refine qq_iload_n dX7_isInt_5 rfl 2 rfl ?_
    refine qq_sipush (v := 352) dX7_isInt_6 (by decide) ?_
    refine qq_icmp_ge (tgt := 35) dX7_isInt_9 (by decide) (fun zc1 => ?_) (fun zc1 => ?_)
    · refine qq_iconst (v := 1) dX7_isInt_35 (by decide) ?_
      have ze : lr_X7_isInt_5 pl9 f (fu + 1) k9  = 1 := by
        rw [lr_X7_isInt_5, if_pos zc1]
      exact qq_iret dX7_isInt_36 rfl rfl ⟨by rw [ze], rfl⟩
    · refine qq_aload_n dX7_isInt_12 rfl 0 rfl ?_
      refine qq_iload_n dX7_isInt_13 rfl 2 rfl ?_
      refine qq_callS (bc := 0) (bs := 0) (mc := 0) (ms := 0) (as := [.ref r1, .int k9]) (rest := []) dX7_isInt_14 (mt_X7_digitAt hp k9 r1 f hr1 (by first | exact qm_pl0 (by assumption) | decide)) rfl kl_X7_97 ks_X7_digitAt ki_X7 kc_X7_digitAt kd_X7_digitAt rfl (by decide) (by decide) (Nat.le_of_ble_eq_true rfl) (fun v hp' hv _ _ => ?_) (fun E hp' zx _ _ => zx.elim)
      obtain ⟨rfl, rfl⟩ := hv
      show qq_Go _ hp 0 0 17 [(0, .ref r1), (1, .int pl9), (2, .int k9)] [.int (r_X7_digitAt k9 f)] _ _
      refine qq_aload_n dX7_isInt_17 rfl 0 rfl ?_
      refine qq_sipush (v := 352) dX7_isInt_18 (by decide) ?_
      refine qq_callS (bc := 0) (bs := 0) (mc := 0) (ms := 0) (as := [.ref r1, .int 352]) (rest := [.int (r_X7_digitAt k9 f)]) dX7_isInt_21 (mt_X7_digitAt hp (352 : Int32) r1 f hr1 (by first | exact qm_pl0 (by assumption) | decide)) rfl kl_X7_97 ks_X7_digitAt ki_X7 kc_X7_digitAt kd_X7_digitAt rfl (by decide) (by decide) (Nat.le_of_ble_eq_true rfl) (fun v hp' hv _ _ => ?_) (fun E hp' zx _ _ => zx.elim)
      obtain ⟨rfl, rfl⟩ := hv
      show qq_Go _ hp 0 0 24 [(0, .ref r1), (1, .int pl9), (2, .int k9)] [.int (r_X7_digitAt (352 : Int32) f), .int (r_X7_digitAt k9 f)] _ _
      refine qq_icmp_eq (tgt := 29) dX7_isInt_24 (by decide) (fun zc2 => ?_) (fun zc2 => ?_)
      · refine qq_iinc (v := k9 + 1) (loc' := [(0, .ref r1), (1, .int pl9), (2, .int (k9 + 1))]) dX7_isInt_29 2 rfl rfl [1, 2, 0] (Nat.le_of_ble_eq_true rfl) rfl ?_
        refine qq_goto (tgt := 5) dX7_isInt_32 (by decide) ?_
        have ze : lr_X7_isInt_5 pl9 f (fu + 1) k9  = lr_X7_isInt_5 pl9 f fu (k9 + 1)  := by
          rw [lr_X7_isInt_5, if_neg zc1, if_pos zc2]
        rw [ze]
        exact lq_X7_isInt_5 hp pl9 r1 f hr1 zq0 zq1 fu (k9 + 1) (qm_pl1 zp (by assumption)) (qm_up (by assumption) zh)
      · refine qq_iconst (v := 0) dX7_isInt_27 (by decide) ?_
        have ze : lr_X7_isInt_5 pl9 f (fu + 1) k9  = 0 := by
          rw [lr_X7_isInt_5, if_neg zc1, if_neg zc2]
        exact qq_iret dX7_isInt_28 rfl rfl ⟨by rw [ze], rfl⟩
def r_X7_isInt (pl9 : Int32) (f : (Nat → Int32)) : Int32 := lr_X7_isInt_5 pl9 f 353 (pl9 + 31) 
theorem bz_X7_isInt (pl9 : Int32) (f : (Nat → Int32)) : r_X7_isInt pl9 f = 0 ∨ r_X7_isInt pl9 f = 1 := by
  unfold r_X7_isInt
  exact (bzl_X7_isInt_5 pl9 f 353 (pl9 + 31) )
set_option maxRecDepth 4000 in
theorem mt_X7_isInt (hp : qq_H) (pl9 : Int32) (r1 : Nat) (f : (Nat → Int32)) (hr1 : hp.2 r1 = .inl (0, 11, .inl f)) (zq0 : 0 ≤ pl9.toInt) (zq1 : pl9.toInt ≤ 1000) : qq_Mt mX7_isInt [.ref r1, .int pl9] hp 0 0 (fun v hp' => v = some (.int (r_X7_isInt pl9 f)) ∧ hp = hp') (fun _ _ => False) := by
  refine qq_met pn_X7 (Nat.le_of_ble_eq_true rfl) (Nat.le_of_ble_eq_true rfl) kc_X7_isInt ?_
  show qq_Go _ hp 0 0 0 [(0, .ref r1), (1, .int pl9)] [] _ _
  refine qq_iload_n dX7_isInt_0 rfl 1 rfl ?_
  refine qq_bipush (v := 31) dX7_isInt_1 (by decide) ?_
  refine qq_iadd dX7_isInt_3 ?_
  refine qq_istore_n (loc' := [(0, .ref r1), (1, .int pl9), (2, .int (pl9 + 31))]) dX7_isInt_4 rfl [1, 2, 0] (Nat.le_of_ble_eq_true rfl) rfl ?_
  have ze : r_X7_isInt pl9 f = lr_X7_isInt_5 pl9 f 353 (pl9 + 31)  := by
    rw [r_X7_isInt]
  rw [ze]
  exact lq_X7_isInt_5 hp pl9 r1 f hr1 zq0 zq1 353 (pl9 + 31) (qm_pl31 zq0 zq1) (qm_352 (qm_pl31 zq0 zq1))
def lr_X7_times_131  (f : (Nat → Int32)) (g : (Nat → Int32)) : Nat → Int32 → (Nat → Int32) → (Nat → Int32) → (Nat → Int32) × (Nat → Int32)
  | 0, _, f1, f2 => (f1, f2)
  | fu + 1, k9, f1, f2 => if 11 ≤ k9 then (f1, f2) else lr_X7_times_131 f g fu (k9 + 1) f1 (upd f2 k9.toNatClampNeg (f1 (k9 + 8).toNatClampNeg))
set_option maxRecDepth 4000 in
theorem lq_X7_times_131 (hp : qq_H)  (r1 : Nat) (r2 : Nat) (p : (Nat → Int32)) (f : (Nat → Int32)) (g : (Nat → Int32)) (hrp : hp.2 90 = .inl (0, 22, .inl p)) (hr1 : hp.2 r1 = .inl (0, 11, .inl f)) (hr2 : hp.2 r2 = .inl (0, 11, .inl g)) (fs : List Value) (hob : hp.2 84 = .inr (4, fs)) (hpf : fs[3]? = some (.ref 90)) (hl1 : r1 < hp.1) (hl2 : r2 < hp.1) (hl90 : 90 < hp.1) (hl84 : 84 < hp.1) (hn1 : r1 ≠ 90) (hn2 : r2 ≠ 90) (hE80 : 80 ≤ hp.1) : ∀ (fu : Nat) (k9 : Int32) (f1 : (Nat → Int32)) (f2 : (Nat → Int32)), ¬ k9 < 0 → ((11 : Int32).toInt - k9.toInt).toNat < fu → qq_Go mX7_times (qq_nw (qq_pt hp 90 (.inl (0, 22, .inl f1))) (.inl (0, 11, .inl f2))) 0 0 131 [(0, .ref 84), (1, .ref r1), (2, .ref r2), (3, .ref hp.1), (4, .int k9)] [] (fun v hp' => v = some (.ref hp.1) ∧ (qq_nw (qq_pt hp 90 (.inl (0, 22, .inl ((lr_X7_times_131 f g fu k9 f1 f2).1)))) (.inl (0, 11, .inl ((lr_X7_times_131 f g fu k9 f1 f2).2)))) = hp') (fun _ _ => False)
  | 0, _, _, _, _, zz => absurd zz (Nat.not_lt_zero _)
  | fu + 1, k9, f1, f2, zp, zh => by
    refine qq_iload dX7_times_131 4 rfl ?_
    refine qq_bipush (v := 11) dX7_times_133 (by decide) ?_
    refine qq_icmp_ge (tgt := 158) dX7_times_135 (by decide) (fun zc1 => ?_) (fun zc1 => ?_)
    · refine qq_aload_n dX7_times_158 rfl 3 rfl ?_
      have ze : lr_X7_times_131 f g (fu + 1) k9 f1 f2 = (f1, f2) := by
        rw [lr_X7_times_131, if_pos zc1]
      exact qq_aret dX7_times_159 rfl (Or.inr ⟨_, rfl⟩) (Or.inr ⟨_, rfl⟩) ⟨rfl, by rw [ze]⟩
    · refine qq_aload_n dX7_times_138 rfl 3 rfl ?_
      refine qq_iload dX7_times_139 4 rfl ?_
      refine qq_aload_n dX7_times_141 rfl 0 rfl ?_
      refine qq_get (C := RX7) (T := TX7) (N := 11) dX7_times_142 (qq_nwo hl84 (qq_pto (by decide) hob)) rfl 3 (by decide) hpf ku_X7 kl_X7_25 ?_
      refine qq_iload dX7_times_145 4 rfl ?_
      refine qq_bipush (v := 8) dX7_times_147 (by decide) ?_
      refine qq_iadd dX7_times_149 ?_
      refine qq_iald dX7_times_150 (qq_nwo hl90 (qq_pts)) (qm_in22f zp (by assumption)) ?_
      show qq_Go _ (qq_nw (qq_pt hp 90 (.inl (0, 22, .inl f1))) (.inl (0, 11, .inl f2))) 0 0 151 [(0, .ref 84), (1, .ref r1), (2, .ref r2), (3, .ref hp.1), (4, .int k9)] [.int (f1 (k9 + 8).toNatClampNeg), .int k9, .ref hp.1] _ _
      refine qq_iast dX7_times_151 (qq_nws) (by have := hE80; first | exact this | omega) (qm_in11 (by assumption) (by assumption)) ?_
      refine qq_hp qq_pnw ?_
      show qq_Go _ (qq_nw (qq_pt hp 90 (.inl (0, 22, .inl f1))) (.inl (0, 11, .inl (upd f2 k9.toNatClampNeg (f1 (k9 + 8).toNatClampNeg))))) 0 0 152 [(0, .ref 84), (1, .ref r1), (2, .ref r2), (3, .ref hp.1), (4, .int k9)] [] _ _
      refine qq_iinc (v := k9 + 1) (loc' := [(0, .ref 84), (1, .ref r1), (2, .ref r2), (3, .ref hp.1), (4, .int (k9 + 1))]) dX7_times_152 4 rfl rfl [1, 2, 3, 4, 0] (Nat.le_of_ble_eq_true rfl) rfl ?_
      refine qq_goto (tgt := 131) dX7_times_155 (by decide) ?_
      have ze : lr_X7_times_131 f g (fu + 1) k9 f1 f2 = lr_X7_times_131 f g fu (k9 + 1) f1 (upd f2 k9.toNatClampNeg (f1 (k9 + 8).toNatClampNeg)) := by
        rw [lr_X7_times_131, if_neg zc1]
      rw [ze]
      exact lq_X7_times_131 hp r1 r2 p f g hrp hr1 hr2 fs hob hpf hl1 hl2 hl90 hl84 hn1 hn2 hE80 fu (k9 + 1) f1 (upd f2 k9.toNatClampNeg (f1 (k9 + 8).toNatClampNeg)) (qm_pos zp (by assumption)) (qm_up (by assumption) zh)
def lr_X7_times_35 (i9 : Int32) (f : (Nat → Int32)) (g : (Nat → Int32)) (kx : Int64 → (Nat → Int32) → (Nat → Int32) × (Nat → Int32)) : Nat → Int64 → Int32 → (Nat → Int32) → (Nat → Int32) × (Nat → Int32)
  | 0, _, _, f1 => (f1, (fun _ => 0))
  | fu + 1, cy9, k9, f1 => if 11 ≤ k9 then kx cy9 f1 else lr_X7_times_35 i9 f g kx fu (((cy9 + (((((f i9.toNatClampNeg).toInt64) &&& 4294967295) * (((g k9.toNatClampNeg).toInt64) &&& 4294967295)) + (((f1 (i9 + k9).toNatClampNeg).toInt64) &&& 4294967295))).toUInt64 >>> ((32 : Int32).toInt64.toUInt64 &&& Int64.toUInt64 63)).toInt64) (k9 + 1) (upd f1 (i9 + k9).toNatClampNeg ((cy9 + (((((f i9.toNatClampNeg).toInt64) &&& 4294967295) * (((g k9.toNatClampNeg).toInt64) &&& 4294967295)) + (((f1 (i9 + k9).toNatClampNeg).toInt64) &&& 4294967295))).toInt32))
set_option maxRecDepth 4000 in
theorem lq_X7_times_35 (hp : qq_H) (i9 : Int32) (r1 : Nat) (r2 : Nat) (p : (Nat → Int32)) (f : (Nat → Int32)) (g : (Nat → Int32)) (hrp : hp.2 90 = .inl (0, 22, .inl p)) (hr1 : hp.2 r1 = .inl (0, 11, .inl f)) (hr2 : hp.2 r2 = .inl (0, 11, .inl g)) (fs : List Value) (hob : hp.2 84 = .inr (4, fs)) (hpf : fs[3]? = some (.ref 90)) (hl1 : r1 < hp.1) (hl2 : r2 < hp.1) (hl90 : 90 < hp.1) (hl84 : 84 < hp.1) (hn1 : r1 ≠ 90) (hn2 : r2 ≠ 90) (hE80 : 80 ≤ hp.1) (kx : Int64 → (Nat → Int32) → (Nat → Int32) × (Nat → Int32)) (hkx : ∀ (cy9 : Int64) (f1 : (Nat → Int32)), qq_Go mX7_times (qq_pt hp 90 (.inl (0, 22, .inl f1))) 1 11 105 [(0, .ref 84), (1, .ref r1), (2, .ref r2), (3, .int i9), (4, .long cy9)] [] (fun v hp' => v = some (.ref hp.1) ∧ (qq_nw (qq_pt hp 90 (.inl (0, 22, .inl ((kx cy9 f1).1)))) (.inl (0, 11, .inl ((kx cy9 f1).2)))) = hp') (fun _ _ => False)) : ∀ (fu : Nat) (cy9 : Int64) (k9 : Int32) (f1 : (Nat → Int32)), ¬ k9 < 0 → ¬ i9 < 0 → ¬ 11 ≤ i9 → ((11 : Int32).toInt - k9.toInt).toNat < fu → qq_Go mX7_times (qq_pt hp 90 (.inl (0, 22, .inl f1))) 1 11 35 [(0, .ref 84), (1, .ref r1), (2, .ref r2), (3, .int i9), (4, .long cy9), (6, .int k9)] [] (fun v hp' => v = some (.ref hp.1) ∧ (qq_nw (qq_pt hp 90 (.inl (0, 22, .inl ((lr_X7_times_35 i9 f g kx fu cy9 k9 f1).1)))) (.inl (0, 11, .inl ((lr_X7_times_35 i9 f g kx fu cy9 k9 f1).2)))) = hp') (fun _ _ => False)
  | 0, _, _, _, _, _, _, zz => absurd zz (Nat.not_lt_zero _)
  | fu + 1, cy9, k9, f1, zp, zi9, zi8, zh => by
    refine qq_iload dX7_times_35 5 rfl ?_
    refine qq_bipush (v := 11) dX7_times_37 (by decide) ?_
    refine qq_icmp_ge (tgt := 105) dX7_times_39 (by decide) (fun zc1 => ?_) (fun zc1 => ?_)
    · have ze : lr_X7_times_35 i9 f g kx (fu + 1) cy9 k9 f1 = kx cy9 f1 := by
        rw [lr_X7_times_35, if_pos zc1]
      rw [ze]
      refine qq_loc [0, 1, 2, 3, 4] rfl ?_
      exact hkx cy9 f1 
    · refine qq_lload dX7_times_42 4 rfl ?_
      refine qq_aload_n dX7_times_44 rfl 1 rfl ?_
      refine qq_iload_n dX7_times_45 rfl 3 rfl ?_
      refine qq_iald dX7_times_46 (qq_pto hn1 hr1) (qm_in11 zi9 zi8) ?_
      show qq_Go _ (qq_pt hp 90 (.inl (0, 22, .inl f1))) 1 11 47 [(0, .ref 84), (1, .ref r1), (2, .ref r2), (3, .int i9), (4, .long cy9), (6, .int k9)] [.int (f i9.toNatClampNeg), .long cy9] _ _
      refine qq_i2l dX7_times_47 ?_
      refine qq_ldc2 (v := 4294967295) dX7_times_48 kl_X7_54 ?_
      refine qq_land dX7_times_51 ?_
      refine qq_aload_n dX7_times_52 rfl 2 rfl ?_
      refine qq_iload dX7_times_53 5 rfl ?_
      refine qq_iald dX7_times_55 (qq_pto hn2 hr2) (qm_in11 zp (by assumption)) ?_
      show qq_Go _ (qq_pt hp 90 (.inl (0, 22, .inl f1))) 1 11 56 [(0, .ref 84), (1, .ref r1), (2, .ref r2), (3, .int i9), (4, .long cy9), (6, .int k9)] [.int (g k9.toNatClampNeg), .long (((f i9.toNatClampNeg).toInt64) &&& 4294967295), .long cy9] _ _
      refine qq_i2l dX7_times_56 ?_
      refine qq_ldc2 (v := 4294967295) dX7_times_57 kl_X7_54 ?_
      refine qq_land dX7_times_60 ?_
      refine qq_lmul dX7_times_61 ?_
      refine qq_aload_n dX7_times_62 rfl 0 rfl ?_
      refine qq_get (C := RX7) (T := TX7) (N := 11) dX7_times_63 (qq_pto (by decide) hob) rfl 3 (by decide) hpf ku_X7 kl_X7_25 ?_
      refine qq_iload_n dX7_times_66 rfl 3 rfl ?_
      refine qq_iload dX7_times_67 5 rfl ?_
      refine qq_iadd dX7_times_69 ?_
      refine qq_iald dX7_times_70 (qq_pts) (qm_in22s zi9 zi8 zp (by assumption)) ?_
      show qq_Go _ (qq_pt hp 90 (.inl (0, 22, .inl f1))) 1 11 71 [(0, .ref 84), (1, .ref r1), (2, .ref r2), (3, .int i9), (4, .long cy9), (6, .int k9)] [.int (f1 (i9 + k9).toNatClampNeg), .long ((((f i9.toNatClampNeg).toInt64) &&& 4294967295) * (((g k9.toNatClampNeg).toInt64) &&& 4294967295)), .long cy9] _ _
      refine qq_i2l dX7_times_71 ?_
      refine qq_ldc2 (v := 4294967295) dX7_times_72 kl_X7_54 ?_
      refine qq_land dX7_times_75 ?_
      refine qq_ladd dX7_times_76 ?_
      refine qq_ladd dX7_times_77 ?_
      refine qq_lstore (loc' := [(0, .ref 84), (1, .ref r1), (2, .ref r2), (3, .int i9), (4, .long (cy9 + (((((f i9.toNatClampNeg).toInt64) &&& 4294967295) * (((g k9.toNatClampNeg).toInt64) &&& 4294967295)) + (((f1 (i9 + k9).toNatClampNeg).toInt64) &&& 4294967295)))), (6, .int k9)]) dX7_times_78 [1, 2, 3, 4, 0, 5] (Nat.le_of_ble_eq_true rfl) rfl ?_
      refine qq_aload_n dX7_times_80 rfl 0 rfl ?_
      refine qq_get (C := RX7) (T := TX7) (N := 11) dX7_times_81 (qq_pto (by decide) hob) rfl 3 (by decide) hpf ku_X7 kl_X7_25 ?_
      refine qq_iload_n dX7_times_84 rfl 3 rfl ?_
      refine qq_iload dX7_times_85 5 rfl ?_
      refine qq_iadd dX7_times_87 ?_
      refine qq_lload dX7_times_88 4 rfl ?_
      refine qq_l2i dX7_times_90 ?_
      refine qq_iast dX7_times_91 (qq_pts) (by decide) (qm_in22s zi9 zi8 zp (by assumption)) ?_
      refine qq_hp qq_ptt ?_
      show qq_Go _ (qq_pt hp 90 (.inl (0, 22, .inl (upd f1 (i9 + k9).toNatClampNeg ((cy9 + (((((f i9.toNatClampNeg).toInt64) &&& 4294967295) * (((g k9.toNatClampNeg).toInt64) &&& 4294967295)) + (((f1 (i9 + k9).toNatClampNeg).toInt64) &&& 4294967295))).toInt32))))) 1 11 92 [(0, .ref 84), (1, .ref r1), (2, .ref r2), (3, .int i9), (4, .long (cy9 + (((((f i9.toNatClampNeg).toInt64) &&& 4294967295) * (((g k9.toNatClampNeg).toInt64) &&& 4294967295)) + (((f1 (i9 + k9).toNatClampNeg).toInt64) &&& 4294967295)))), (6, .int k9)] [] _ _
      refine qq_lload dX7_times_92 4 rfl ?_
      refine qq_bipush (v := 32) dX7_times_94 (by decide) ?_
      refine qq_lushr dX7_times_96 ?_
      refine qq_lstore (loc' := [(0, .ref 84), (1, .ref r1), (2, .ref r2), (3, .int i9), (4, .long (((cy9 + (((((f i9.toNatClampNeg).toInt64) &&& 4294967295) * (((g k9.toNatClampNeg).toInt64) &&& 4294967295)) + (((f1 (i9 + k9).toNatClampNeg).toInt64) &&& 4294967295))).toUInt64 >>> ((32 : Int32).toInt64.toUInt64 &&& Int64.toUInt64 63)).toInt64)), (6, .int k9)]) dX7_times_97 [1, 2, 3, 4, 0, 5] (Nat.le_of_ble_eq_true rfl) rfl ?_
      refine qq_iinc (v := k9 + 1) (loc' := [(0, .ref 84), (1, .ref r1), (2, .ref r2), (3, .int i9), (4, .long (((cy9 + (((((f i9.toNatClampNeg).toInt64) &&& 4294967295) * (((g k9.toNatClampNeg).toInt64) &&& 4294967295)) + (((f1 (i9 + k9).toNatClampNeg).toInt64) &&& 4294967295))).toUInt64 >>> ((32 : Int32).toInt64.toUInt64 &&& Int64.toUInt64 63)).toInt64)), (6, .int (k9 + 1))]) dX7_times_99 5 rfl rfl [1, 2, 3, 4, 5, 0] (Nat.le_of_ble_eq_true rfl) rfl ?_
      refine qq_goto (tgt := 35) dX7_times_102 (by decide) ?_
      have ze : lr_X7_times_35 i9 f g kx (fu + 1) cy9 k9 f1 = lr_X7_times_35 i9 f g kx fu (((cy9 + (((((f i9.toNatClampNeg).toInt64) &&& 4294967295) * (((g k9.toNatClampNeg).toInt64) &&& 4294967295)) + (((f1 (i9 + k9).toNatClampNeg).toInt64) &&& 4294967295))).toUInt64 >>> ((32 : Int32).toInt64.toUInt64 &&& Int64.toUInt64 63)).toInt64) (k9 + 1) (upd f1 (i9 + k9).toNatClampNeg ((cy9 + (((((f i9.toNatClampNeg).toInt64) &&& 4294967295) * (((g k9.toNatClampNeg).toInt64) &&& 4294967295)) + (((f1 (i9 + k9).toNatClampNeg).toInt64) &&& 4294967295))).toInt32)) := by
        rw [lr_X7_times_35, if_neg zc1]
      rw [ze]
      exact lq_X7_times_35 hp i9 r1 r2 p f g hrp hr1 hr2 fs hob hpf hl1 hl2 hl90 hl84 hn1 hn2 hE80 kx hkx fu (((cy9 + (((((f i9.toNatClampNeg).toInt64) &&& 4294967295) * (((g k9.toNatClampNeg).toInt64) &&& 4294967295)) + (((f1 (i9 + k9).toNatClampNeg).toInt64) &&& 4294967295))).toUInt64 >>> ((32 : Int32).toInt64.toUInt64 &&& Int64.toUInt64 63)).toInt64) (k9 + 1) (upd f1 (i9 + k9).toNatClampNeg ((cy9 + (((((f i9.toNatClampNeg).toInt64) &&& 4294967295) * (((g k9.toNatClampNeg).toInt64) &&& 4294967295)) + (((f1 (i9 + k9).toNatClampNeg).toInt64) &&& 4294967295))).toInt32)) (qm_pos zp (by assumption)) zi9 zi8 (qm_up (by assumption) zh)
def lr_X7_times_23  (f : (Nat → Int32)) (g : (Nat → Int32)) : Nat → Int32 → (Nat → Int32) → (Nat → Int32) × (Nat → Int32)
  | 0, _, f1 => (f1, (fun _ => 0))
  | fu + 1, i9, f1 => if 11 ≤ i9 then lr_X7_times_131 f g 12 (0 : Int32) f1 (fun _ => 0) else lr_X7_times_35 i9 f g (fun cy99 f19 => lr_X7_times_23 f g fu (i9 + 1) (upd f19 (i9 + 11).toNatClampNeg cy99.toInt32)) 12 (0 : Int64) (0 : Int32) f1
set_option maxRecDepth 4000 in
theorem lq_X7_times_23 (hp : qq_H)  (r1 : Nat) (r2 : Nat) (p : (Nat → Int32)) (f : (Nat → Int32)) (g : (Nat → Int32)) (hrp : hp.2 90 = .inl (0, 22, .inl p)) (hr1 : hp.2 r1 = .inl (0, 11, .inl f)) (hr2 : hp.2 r2 = .inl (0, 11, .inl g)) (fs : List Value) (hob : hp.2 84 = .inr (4, fs)) (hpf : fs[3]? = some (.ref 90)) (hl1 : r1 < hp.1) (hl2 : r2 < hp.1) (hl90 : 90 < hp.1) (hl84 : 84 < hp.1) (hn1 : r1 ≠ 90) (hn2 : r2 ≠ 90) (hE80 : 80 ≤ hp.1) : ∀ (fu : Nat) (i9 : Int32) (f1 : (Nat → Int32)), ¬ i9 < 0 → ((11 : Int32).toInt - i9.toInt).toNat < fu → qq_Go mX7_times (qq_pt hp 90 (.inl (0, 22, .inl f1))) 1 11 23 [(0, .ref 84), (1, .ref r1), (2, .ref r2), (3, .int i9)] [] (fun v hp' => v = some (.ref hp.1) ∧ (qq_nw (qq_pt hp 90 (.inl (0, 22, .inl ((lr_X7_times_23 f g fu i9 f1).1)))) (.inl (0, 11, .inl ((lr_X7_times_23 f g fu i9 f1).2)))) = hp') (fun _ _ => False)
  | 0, _, _, _, zz => absurd zz (Nat.not_lt_zero _)
  | fu + 1, i9, f1, zp, zh => by
    refine qq_iload_n dX7_times_23 rfl 3 rfl ?_
    refine qq_bipush (v := 11) dX7_times_24 (by decide) ?_
    refine qq_icmp_ge (tgt := 123) dX7_times_26 (by decide) (fun zc1 => ?_) (fun zc1 => ?_)
    · refine qq_bipush (v := 11) dX7_times_123 (by decide) ?_
      refine qq_newI (bc := 0) (bs := 0) (N' := 11) (ms := 11) dX7_times_125 (by decide) rfl (Nat.le_of_ble_eq_true rfl) (Nat.le_refl _) ?_ ka_int
      show qq_Go _ (qq_nw (qq_pt hp 90 (.inl (0, 22, .inl f1))) (.inl (0, 11, .inl (fun _ => 0)))) 0 0 127 [(0, .ref 84), (1, .ref r1), (2, .ref r2), (3, .int i9)] [.ref hp.1] _ _
      refine qq_astore_n (loc' := [(0, .ref 84), (1, .ref r1), (2, .ref r2), (3, .ref hp.1)]) dX7_times_127 rfl [1, 2, 3, 0] (Nat.le_of_ble_eq_true rfl) rfl ?_
      refine qq_iconst (v := 0) dX7_times_128 (by decide) ?_
      refine qq_istore (loc' := [(0, .ref 84), (1, .ref r1), (2, .ref r2), (3, .ref hp.1), (4, .int 0)]) dX7_times_129 [1, 2, 3, 4, 0] (Nat.le_of_ble_eq_true rfl) rfl ?_
      have ze : lr_X7_times_23 f g (fu + 1) i9 f1 = lr_X7_times_131 f g 12 (0 : Int32) f1 (fun _ => 0) := by
        rw [lr_X7_times_23, if_pos zc1]
      rw [ze]
      exact lq_X7_times_131 hp r1 r2 p f g hrp hr1 hr2 fs hob hpf hl1 hl2 hl90 hl84 hn1 hn2 hE80 12 (0 : Int32) f1 (fun _ => 0) (by decide) (by decide)
    · refine qq_lconst (v := 0) dX7_times_29 (by decide) ?_
      refine qq_lstore (loc' := [(0, .ref 84), (1, .ref r1), (2, .ref r2), (3, .int i9), (4, .long 0)]) dX7_times_30 [1, 2, 3, 4, 0] (Nat.le_of_ble_eq_true rfl) rfl ?_
      refine qq_iconst (v := 0) dX7_times_32 (by decide) ?_
      refine qq_istore (loc' := [(0, .ref 84), (1, .ref r1), (2, .ref r2), (3, .int i9), (4, .long 0), (6, .int 0)]) dX7_times_33 [1, 2, 3, 4, 5, 0] (Nat.le_of_ble_eq_true rfl) rfl ?_
      have ze : lr_X7_times_23 f g (fu + 1) i9 f1 = lr_X7_times_35 i9 f g (fun cy99 f19 => lr_X7_times_23 f g fu (i9 + 1) (upd f19 (i9 + 11).toNatClampNeg cy99.toInt32)) 12 (0 : Int64) (0 : Int32) f1 := by
        rw [lr_X7_times_23, if_neg zc1]
      rw [ze]
      exact lq_X7_times_35 hp i9 r1 r2 p f g hrp hr1 hr2 fs hob hpf hl1 hl2 hl90 hl84 hn1 hn2 hE80 (fun cy99 f19 => lr_X7_times_23 f g fu (i9 + 1) (upd f19 (i9 + 11).toNatClampNeg cy99.toInt32)) (fun cy99 f19 => by
          refine qq_aload_n dX7_times_105 rfl 0 rfl ?_
          refine qq_get (C := RX7) (T := TX7) (N := 11) dX7_times_106 (qq_pto (by decide) hob) rfl 3 (by decide) hpf ku_X7 kl_X7_25 ?_
          refine qq_iload_n dX7_times_109 rfl 3 rfl ?_
          refine qq_bipush (v := 11) dX7_times_110 (by decide) ?_
          refine qq_iadd dX7_times_112 ?_
          refine qq_lload dX7_times_113 4 rfl ?_
          refine qq_l2i dX7_times_115 ?_
          refine qq_iast dX7_times_116 (qq_pts) (by decide) (qm_in22e zp (by assumption)) ?_
          refine qq_hp qq_ptt ?_
          show qq_Go _ (qq_pt hp 90 (.inl (0, 22, .inl (upd f19 (i9 + 11).toNatClampNeg cy99.toInt32)))) 1 11 117 [(0, .ref 84), (1, .ref r1), (2, .ref r2), (3, .int i9), (4, .long cy99)] [] _ _
          refine qq_iinc (v := i9 + 1) (loc' := [(0, .ref 84), (1, .ref r1), (2, .ref r2), (3, .int (i9 + 1)), (4, .long cy99)]) dX7_times_117 3 rfl rfl [1, 2, 3, 0, 4] (Nat.le_of_ble_eq_true rfl) rfl ?_
          refine qq_goto (tgt := 23) dX7_times_120 (by decide) ?_
          refine qq_loc [0, 1, 2, 3] rfl ?_
          exact lq_X7_times_23 hp r1 r2 p f g hrp hr1 hr2 fs hob hpf hl1 hl2 hl90 hl84 hn1 hn2 hE80 fu (i9 + 1) (upd f19 (i9 + 11).toNatClampNeg cy99.toInt32) (qm_pos zp (by assumption)) (qm_up (by assumption) zh)) 12 (0 : Int64) (0 : Int32) f1 (by decide) (by assumption) (by assumption) (by decide)
def lr_X7_times_2  (f : (Nat → Int32)) (g : (Nat → Int32)) : Nat → Int32 → (Nat → Int32) → (Nat → Int32) × (Nat → Int32)
  | 0, _, f1 => (f1, (fun _ => 0))
  | fu + 1, k9, f1 => if 22 ≤ k9 then lr_X7_times_23 f g 12 (0 : Int32) f1 else lr_X7_times_2 f g fu (k9 + 1) (upd f1 k9.toNatClampNeg (0 : Int32))
set_option maxRecDepth 4000 in
theorem lq_X7_times_2 (hp : qq_H)  (r1 : Nat) (r2 : Nat) (p : (Nat → Int32)) (f : (Nat → Int32)) (g : (Nat → Int32)) (hrp : hp.2 90 = .inl (0, 22, .inl p)) (hr1 : hp.2 r1 = .inl (0, 11, .inl f)) (hr2 : hp.2 r2 = .inl (0, 11, .inl g)) (fs : List Value) (hob : hp.2 84 = .inr (4, fs)) (hpf : fs[3]? = some (.ref 90)) (hl1 : r1 < hp.1) (hl2 : r2 < hp.1) (hl90 : 90 < hp.1) (hl84 : 84 < hp.1) (hn1 : r1 ≠ 90) (hn2 : r2 ≠ 90) (hE80 : 80 ≤ hp.1) : ∀ (fu : Nat) (k9 : Int32) (f1 : (Nat → Int32)), ¬ k9 < 0 → ((22 : Int32).toInt - k9.toInt).toNat < fu → qq_Go mX7_times (qq_pt hp 90 (.inl (0, 22, .inl f1))) 1 11 2 [(0, .ref 84), (1, .ref r1), (2, .ref r2), (3, .int k9)] [] (fun v hp' => v = some (.ref hp.1) ∧ (qq_nw (qq_pt hp 90 (.inl (0, 22, .inl ((lr_X7_times_2 f g fu k9 f1).1)))) (.inl (0, 11, .inl ((lr_X7_times_2 f g fu k9 f1).2)))) = hp') (fun _ _ => False)
  | 0, _, _, _, zz => absurd zz (Nat.not_lt_zero _)
  | fu + 1, k9, f1, zp, zh => by
    refine qq_iload_n dX7_times_2 rfl 3 rfl ?_
    refine qq_bipush (v := 22) dX7_times_3 (by decide) ?_
    refine qq_icmp_ge (tgt := 21) dX7_times_5 (by decide) (fun zc1 => ?_) (fun zc1 => ?_)
    · refine qq_iconst (v := 0) dX7_times_21 (by decide) ?_
      refine qq_istore_n (loc' := [(0, .ref 84), (1, .ref r1), (2, .ref r2), (3, .int 0)]) dX7_times_22 rfl [1, 2, 3, 0] (Nat.le_of_ble_eq_true rfl) rfl ?_
      have ze : lr_X7_times_2 f g (fu + 1) k9 f1 = lr_X7_times_23 f g 12 (0 : Int32) f1 := by
        rw [lr_X7_times_2, if_pos zc1]
      rw [ze]
      exact lq_X7_times_23 hp r1 r2 p f g hrp hr1 hr2 fs hob hpf hl1 hl2 hl90 hl84 hn1 hn2 hE80 12 (0 : Int32) f1 (by decide) (by decide)
    · refine qq_aload_n dX7_times_8 rfl 0 rfl ?_
      refine qq_get (C := RX7) (T := TX7) (N := 11) dX7_times_9 (qq_pto (by decide) hob) rfl 3 (by decide) hpf ku_X7 kl_X7_25 ?_
      refine qq_iload_n dX7_times_12 rfl 3 rfl ?_
      refine qq_iconst (v := 0) dX7_times_13 (by decide) ?_
      refine qq_iast dX7_times_14 (qq_pts) (by decide) (qm_in22 (by assumption) (by assumption)) ?_
      refine qq_hp qq_ptt ?_
      show qq_Go _ (qq_pt hp 90 (.inl (0, 22, .inl (upd f1 k9.toNatClampNeg (0 : Int32))))) 1 11 15 [(0, .ref 84), (1, .ref r1), (2, .ref r2), (3, .int k9)] [] _ _
      refine qq_iinc (v := k9 + 1) (loc' := [(0, .ref 84), (1, .ref r1), (2, .ref r2), (3, .int (k9 + 1))]) dX7_times_15 3 rfl rfl [1, 2, 3, 0] (Nat.le_of_ble_eq_true rfl) rfl ?_
      refine qq_goto (tgt := 2) dX7_times_18 (by decide) ?_
      have ze : lr_X7_times_2 f g (fu + 1) k9 f1 = lr_X7_times_2 f g fu (k9 + 1) (upd f1 k9.toNatClampNeg (0 : Int32)) := by
        rw [lr_X7_times_2, if_neg zc1]
      rw [ze]
      exact lq_X7_times_2 hp r1 r2 p f g hrp hr1 hr2 fs hob hpf hl1 hl2 hl90 hl84 hn1 hn2 hE80 fu (k9 + 1) (upd f1 k9.toNatClampNeg (0 : Int32)) (qm_pos zp (by assumption)) (qm_up (by assumption) zh)
def r_X7_times  (p : (Nat → Int32)) (f : (Nat → Int32)) (g : (Nat → Int32)) : (Nat → Int32) × (Nat → Int32) := lr_X7_times_2 f g 23 (0 : Int32) p
set_option maxRecDepth 4000 in
theorem mt_X7_times (hp : qq_H)  (r1 : Nat) (r2 : Nat) (p : (Nat → Int32)) (f : (Nat → Int32)) (g : (Nat → Int32)) (hrp : hp.2 90 = .inl (0, 22, .inl p)) (hr1 : hp.2 r1 = .inl (0, 11, .inl f)) (hr2 : hp.2 r2 = .inl (0, 11, .inl g)) (fs : List Value) (hob : hp.2 84 = .inr (4, fs)) (hpf : fs[3]? = some (.ref 90)) (hl1 : r1 < hp.1) (hl2 : r2 < hp.1) (hl90 : 90 < hp.1) (hl84 : 84 < hp.1) (hn1 : r1 ≠ 90) (hn2 : r2 ≠ 90) (hE80 : 80 ≤ hp.1) : qq_Mt mX7_times [.ref 84, .ref r1, .ref r2] hp 1 11 (fun v hp' => v = some (.ref hp.1) ∧ (qq_nw (qq_pt hp 90 (.inl (0, 22, .inl ((r_X7_times p f g).1)))) (.inl (0, 11, .inl ((r_X7_times p f g).2)))) = hp') (fun _ _ => False) := by
  refine qq_met pn_X7 (Nat.le_of_ble_eq_true rfl) (Nat.le_of_ble_eq_true rfl) kc_X7_times ?_
  show qq_Go _ hp 1 11 0 [(0, .ref 84), (1, .ref r1), (2, .ref r2)] [] _ _
  refine qq_hp (qq_pti hrp) ?_
  refine qq_iconst (v := 0) dX7_times_0 (by decide) ?_
  refine qq_istore_n (loc' := [(0, .ref 84), (1, .ref r1), (2, .ref r2), (3, .int 0)]) dX7_times_1 rfl [1, 2, 3, 0] (Nat.le_of_ble_eq_true rfl) rfl ?_
  have ze : r_X7_times p f g = lr_X7_times_2 f g 23 (0 : Int32) p := by
    rw [r_X7_times]
  rw [ze]
  exact lq_X7_times_2 hp r1 r2 p f g hrp hr1 hr2 fs hob hpf hl1 hl2 hl90 hl84 hn1 hn2 hE80 23 (0 : Int32) p (by decide) (by decide)