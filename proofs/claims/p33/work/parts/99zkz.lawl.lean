theorem ll_ex {x : Int32} {n : Nat} (h1 : ¬ x.toInt < 0) (h2 : ¬ (n : Int) < x.toInt) : ∃ k : Nat, k ≤ n ∧ x.toInt = (k : Int) := ⟨x.toInt.toNat, by omega, by omega⟩
theorem ll_in {i : Int32} {n : Nat} (k : Int32) (hk : 0 ≤ k.toInt ∧ k.toInt ≤ 3) (hi : 0 ≤ i.toInt) (hn : i.toInt + 4 ≤ n) (hb : n ≤ 256) : vp_in (i + k) n := by
  rw [vp_in_iff]
  have e : (i + k).toInt = i.toInt + k.toInt := by
    rw [Int32.toInt_add]
    show (i.toInt + k.toInt).bmod _ = _
    rw [Int.bmod_eq_of_le (by omega) (by omega)]
  omega
theorem ll_4 {i : Int32} {n : Nat} (hi : 0 ≤ i.toInt) (hn : i.toInt + 4 ≤ n) (hb : n ≤ 256) : (i + Int32.ofInt 4).toInt = i.toInt + 4 := by
  have e4 : (Int32.ofInt 4).toInt = 4 := rfl
  rw [Int32.toInt_add, e4]
  show (i.toInt + 4).bmod _ = _
  rw [Int.bmod_eq_of_le (by omega) (by omega)]
theorem ll_n4 {n : Nat} (hb : n ≤ 256) : (Int32.ofNat n - 4).toInt = (n : Int) - 4 := by
  have e : (Int32.ofNat n).toInt = n := nI_toInt (by omega)
  have e4 : (4 : Int32).toInt = 4 := rfl
  rw [Int32.toInt_sub, e, e4]
  show ((n : Int) - 4).bmod _ = _
  rw [Int.bmod_eq_of_le (by omega) (by omega)]
set_option maxRecDepth 4000 in
theorem ll_cs {n : Nat} {f : Nat → Int32} {P : Option Value → qq_H → Prop} {PX : String → qq_H → Prop} {S : sX} {T : sM} {hp : qq_H} (h : LI n f S T hp) (hR : RelL S T) {i x1 x2 x3 : Int32} (e1 : f (i + 1).toNatClampNeg = x1) (e2 : f (i + 2).toNatClampNeg = x2) (e3 : f (i + 3).toNatClampNeg = x3) (hi1 : vp_in (i + 1) n) (hi2 : vp_in (i + 2) n) (hi3 : vp_in (i + 3) n) (bc bs : Nat) (KK : ∀ (hp' : qq_H) (S' : sX) (T' : sM), LI n f S' T' hp' → RelL S' T' → qq_Go mL_law hp' bc bs 1990 [(0, .ref 0), (1, .ref 80), (2, .ref 84), (3, .ref 419), (4, .int i)] [] P PX) {x : Int32} (h1 : ¬ x.toInt < 0) (h2 : ¬ (48 : Int) < x.toInt) : ∀ k : Nat, k ≤ 48 → x.toInt = (k : Int) → qq_Go mL_law hp (bc + 3000) (bs + 33000) 43 [(0, .ref 0), (1, .ref 80), (2, .ref 84), (3, .ref 419), (4, .int i)] [.int x] P PX
  | 0, _, ek => qq_tabIn (tgt := 252) (off := 209) dL_law_43 h1 h2 (by rw [ek]; decide +kernel) (by decide) (qq_less (bc' := bc + 2) (bs' := bs + 12) (by omega) (by omega) (lc_0 h hR e1 e2 e3 hi1 hi2 hi3 bc bs KK))
  | 1, _, ek => qq_tabIn (tgt := 292) (off := 249) dL_law_43 h1 h2 (by rw [ek]; decide +kernel) (by decide) (qq_less (bc' := bc + 1) (bs' := bs + 6) (by omega) (by omega) (lc_1 h hR e1 e2 e3 hi1 hi2 hi3 bc bs KK))
  | 2, _, ek => qq_tabIn (tgt := 348) (off := 305) dL_law_43 h1 h2 (by rw [ek]; decide +kernel) (by decide) (qq_less (bc' := bc + 1) (bs' := bs + 6) (by omega) (by omega) (lc_2 h hR e1 e2 e3 hi1 hi2 hi3 bc bs KK))
  | 3, _, ek => qq_tabIn (tgt := 404) (off := 361) dL_law_43 h1 h2 (by rw [ek]; decide +kernel) (by decide) (qq_less (bc' := bc + 5) (bs' := bs + 36) (by omega) (by omega) (lc_3 h hR e1 e2 e3 hi1 hi2 hi3 bc bs KK))
  | 4, _, ek => qq_tabIn (tgt := 444) (off := 401) dL_law_43 h1 h2 (by rw [ek]; decide +kernel) (by decide) (qq_less (bc' := bc + 3) (bs' := bs + 24) (by omega) (by omega) (lc_4 h hR e1 e2 e3 hi1 hi2 hi3 bc bs KK))
  | 5, _, ek => qq_tabIn (tgt := 457) (off := 414) dL_law_43 h1 h2 (by rw [ek]; decide +kernel) (by decide) (qq_less (bc' := bc + 2) (bs' := bs + 12) (by omega) (by omega) (lc_5 h hR e1 e2 e3 hi1 hi2 hi3 bc bs KK))
  | 6, _, ek => qq_tabIn (tgt := 497) (off := 454) dL_law_43 h1 h2 (by rw [ek]; decide +kernel) (by decide) (qq_less (bc' := bc + 2) (bs' := bs + 12) (by omega) (by omega) (lc_6 h hR e1 e2 e3 hi1 hi2 hi3 bc bs KK))
  | 7, _, ek => qq_tabIn (tgt := 537) (off := 494) dL_law_43 h1 h2 (by rw [ek]; decide +kernel) (by decide) (qq_less (bc' := bc + 2) (bs' := bs + 12) (by omega) (by omega) (lc_7 h hR e1 e2 e3 hi1 hi2 hi3 bc bs KK))
  | 8, _, ek => qq_tabIn (tgt := 577) (off := 534) dL_law_43 h1 h2 (by rw [ek]; decide +kernel) (by decide) (qq_less (bc' := bc + 1) (bs' := bs + 6) (by omega) (by omega) (lc_8 h hR e1 e2 e3 hi1 hi2 hi3 bc bs KK))
  | 9, _, ek => qq_tabIn (tgt := 605) (off := 562) dL_law_43 h1 h2 (by rw [ek]; decide +kernel) (by decide) (qq_less (bc' := bc + 3) (bs' := bs + 15) (by omega) (by omega) (lc_9 h hR e1 e2 e3 hi1 hi2 hi3 bc bs KK))
  | 10, _, ek => qq_tabIn (tgt := 645) (off := 602) dL_law_43 h1 h2 (by rw [ek]; decide +kernel) (by decide) (qq_less (bc' := bc + 3) (bs' := bs + 15) (by omega) (by omega) (lc_10 h hR e1 e2 e3 hi1 hi2 hi3 bc bs KK))
  | 11, _, ek => qq_tabIn (tgt := 685) (off := 642) dL_law_43 h1 h2 (by rw [ek]; decide +kernel) (by decide) (qq_less (bc' := bc + 3) (bs' := bs + 15) (by omega) (by omega) (lc_11 h hR e1 e2 e3 hi1 hi2 hi3 bc bs KK))
  | 12, _, ek => qq_tabIn (tgt := 725) (off := 682) dL_law_43 h1 h2 (by rw [ek]; decide +kernel) (by decide) (qq_less (bc' := bc + 10) (bs' := bs + 33) (by omega) (by omega) (lc_12 h hR e1 e2 e3 hi1 hi2 hi3 bc bs KK))
  | 13, _, ek => qq_tabIn (tgt := 753) (off := 710) dL_law_43 h1 h2 (by rw [ek]; decide +kernel) (by decide) (qq_less (bc' := bc + 9) (bs' := bs + 84) (by omega) (by omega) (lc_13 h hR e1 e2 e3 hi1 hi2 hi3 bc bs KK))
  | 14, _, ek => qq_tabIn (tgt := 805) (off := 762) dL_law_43 h1 h2 (by rw [ek]; decide +kernel) (by decide) (qq_less (bc' := bc + 9) (bs' := bs + 84) (by omega) (by omega) (lc_14 h hR e1 e2 e3 hi1 hi2 hi3 bc bs KK))
  | 15, _, ek => qq_tabIn (tgt := 857) (off := 814) dL_law_43 h1 h2 (by rw [ek]; decide +kernel) (by decide) (qq_less (bc' := bc + 55) (bs' := bs + 600) (by omega) (by omega) (lc_15 h hR e1 e2 e3 hi1 hi2 hi3 bc bs KK))
  | 16, _, ek => qq_tabIn (tgt := 913) (off := 870) dL_law_43 h1 h2 (by rw [ek]; decide +kernel) (by decide) (qq_less (bc' := bc + 600) (bs' := bs + 6600) (by omega) (by omega) (lc_16 h hR e1 e2 e3 hi1 hi2 hi3 bc bs KK))
  | 17, _, ek => qq_tabIn (tgt := 926) (off := 883) dL_law_43 h1 h2 (by rw [ek]; decide +kernel) (by decide) (qq_less (bc' := bc + 1) (bs' := bs + 6) (by omega) (by omega) (lc_17 h hR e1 e2 e3 hi1 hi2 hi3 bc bs KK))
  | 18, _, ek => qq_tabIn (tgt := 954) (off := 911) dL_law_43 h1 h2 (by rw [ek]; decide +kernel) (by decide) (qq_less (bc' := bc + 1) (bs' := bs + 6) (by omega) (by omega) (lc_18 h hR e1 e2 e3 hi1 hi2 hi3 bc bs KK))
  | 19, _, ek => qq_tabIn (tgt := 982) (off := 939) dL_law_43 h1 h2 (by rw [ek]; decide +kernel) (by decide) (qq_less (bc' := bc + 4) (bs' := bs + 39) (by omega) (by omega) (lc_19 h hR e1 e2 e3 hi1 hi2 hi3 bc bs KK))
  | 20, _, ek => qq_tabIn (tgt := 1010) (off := 967) dL_law_43 h1 h2 (by rw [ek]; decide +kernel) (by decide) (qq_less (bc' := bc + 1) (bs' := bs + 6) (by omega) (by omega) (lc_20 h hR e1 e2 e3 hi1 hi2 hi3 bc bs KK))
  | 21, _, ek => qq_tabIn (tgt := 1038) (off := 995) dL_law_43 h1 h2 (by rw [ek]; decide +kernel) (by decide) (qq_less (bc' := bc + 1) (bs' := bs + 6) (by omega) (by omega) (lc_21 h hR e1 e2 e3 hi1 hi2 hi3 bc bs KK))
  | 22, _, ek => qq_tabIn (tgt := 1066) (off := 1023) dL_law_43 h1 h2 (by rw [ek]; decide +kernel) (by decide) (qq_less (bc' := bc + 7) (bs' := bs + 57) (by omega) (by omega) (lc_22 h hR e1 e2 e3 hi1 hi2 hi3 bc bs KK))
  | 23, _, ek => qq_tabIn (tgt := 1106) (off := 1063) dL_law_43 h1 h2 (by rw [ek]; decide +kernel) (by decide) (qq_less (bc' := bc + 7) (bs' := bs + 67) (by omega) (by omega) (lc_23 h hR e1 e2 e3 hi1 hi2 hi3 bc bs KK))
  | 24, _, ek => qq_tabIn (tgt := 1134) (off := 1091) dL_law_43 h1 h2 (by rw [ek]; decide +kernel) (by decide) (qq_less (bc' := bc + 7) (bs' := bs + 67) (by omega) (by omega) (lc_24 h hR e1 e2 e3 hi1 hi2 hi3 bc bs KK))
  | 25, _, ek => qq_tabIn (tgt := 1162) (off := 1119) dL_law_43 h1 h2 (by rw [ek]; decide +kernel) (by decide) (qq_less (bc' := bc + 2) (bs' := bs + 12) (by omega) (by omega) (lc_25 h hR e1 e2 e3 hi1 hi2 hi3 bc bs KK))
  | 26, _, ek => qq_tabIn (tgt := 1190) (off := 1147) dL_law_43 h1 h2 (by rw [ek]; decide +kernel) (by decide) (qq_less (bc' := bc + 2) (bs' := bs + 12) (by omega) (by omega) (lc_26 h hR e1 e2 e3 hi1 hi2 hi3 bc bs KK))
  | 27, _, ek => qq_tabIn (tgt := 1218) (off := 1175) dL_law_43 h1 h2 (by rw [ek]; decide +kernel) (by decide) (qq_less (bc' := bc + 9) (bs' := bs + 86) (by omega) (by omega) (lc_27 h hR e1 e2 e3 hi1 hi2 hi3 bc bs KK))
  | 28, _, ek => qq_tabIn (tgt := 1246) (off := 1203) dL_law_43 h1 h2 (by rw [ek]; decide +kernel) (by decide) (qq_less (bc' := bc + 8) (bs' := bs + 78) (by omega) (by omega) (lc_28 h hR e1 e2 e3 hi1 hi2 hi3 bc bs KK))
  | 29, _, ek => qq_tabIn (tgt := 1286) (off := 1243) dL_law_43 h1 h2 (by rw [ek]; decide +kernel) (by decide) (qq_less (bc' := bc + 2) (bs' := bs + 12) (by omega) (by omega) (lc_29 h hR e1 e2 e3 hi1 hi2 hi3 bc bs KK))
  | 30, _, ek => qq_tabIn (tgt := 1326) (off := 1283) dL_law_43 h1 h2 (by rw [ek]; decide +kernel) (by decide) (qq_less (bc' := bc + 2) (bs' := bs + 12) (by omega) (by omega) (lc_30 h hR e1 e2 e3 hi1 hi2 hi3 bc bs KK))
  | 31, _, ek => qq_tabIn (tgt := 1366) (off := 1323) dL_law_43 h1 h2 (by rw [ek]; decide +kernel) (by decide) (qq_less (bc' := bc + 4) (bs' := bs + 25) (by omega) (by omega) (lc_31 h hR e1 e2 e3 hi1 hi2 hi3 bc bs KK))
  | 32, _, ek => qq_tabIn (tgt := 1435) (off := 1392) dL_law_43 h1 h2 (by rw [ek]; decide +kernel) (by decide) (qq_less (bc' := bc + 4) (bs' := bs + 25) (by omega) (by omega) (lc_32 h hR e1 e2 e3 hi1 hi2 hi3 bc bs KK))
  | 33, _, ek => qq_tabIn (tgt := 1475) (off := 1432) dL_law_43 h1 h2 (by rw [ek]; decide +kernel) (by decide) (qq_less (bc' := bc + 1) (bs' := bs + 6) (by omega) (by omega) (lc_33 h hR e1 e2 e3 hi1 hi2 hi3 bc bs KK))
  | 34, _, ek => qq_tabIn (tgt := 1531) (off := 1488) dL_law_43 h1 h2 (by rw [ek]; decide +kernel) (by decide) (qq_less (bc' := bc + 55) (bs' := bs + 600) (by omega) (by omega) (lc_34 h hR e1 e2 e3 hi1 hi2 hi3 bc bs KK))
  | 35, _, ek => qq_tabIn (tgt := 1559) (off := 1516) dL_law_43 h1 h2 (by rw [ek]; decide +kernel) (by decide) (qq_less (bc' := bc + 38) (bs' := bs + 408) (by omega) (by omega) (lc_35 h hR e1 e2 e3 hi1 hi2 hi3 bc bs KK))
  | 36, _, ek => qq_tabIn (tgt := 1599) (off := 1556) dL_law_43 h1 h2 (by rw [ek]; decide +kernel) (by decide) (qq_less (bc' := bc + 7) (bs' := bs + 57) (by omega) (by omega) (lc_36 h hR e1 e2 e3 hi1 hi2 hi3 bc bs KK))
  | 37, _, ek => qq_tabIn (tgt := 1651) (off := 1608) dL_law_43 h1 h2 (by rw [ek]; decide +kernel) (by decide) (qq_less (bc' := bc + 36) (bs' := bs + 386) (by omega) (by omega) (lc_37 h hR e1 e2 e3 hi1 hi2 hi3 bc bs KK))
  | 38, _, ek => qq_tabIn (tgt := 1703) (off := 1660) dL_law_43 h1 h2 (by rw [ek]; decide +kernel) (by decide) (qq_less (bc' := bc + 1935) (bs' := bs + 21270) (by omega) (by omega) (lc_38 h hR e1 e2 e3 hi1 hi2 hi3 bc bs KK))
  | 39, _, ek => qq_tabIn (tgt := 1755) (off := 1712) dL_law_43 h1 h2 (by rw [ek]; decide +kernel) (by decide) (qq_less (bc' := bc + 9) (bs' := bs + 94) (by omega) (by omega) (lc_39 h hR e1 e2 e3 hi1 hi2 hi3 bc bs KK))
  | 40, _, ek => qq_tabIn (tgt := 1783) (off := 1740) dL_law_43 h1 h2 (by rw [ek]; decide +kernel) (by decide) (qq_less (bc' := bc + 5) (bs' := bs + 50) (by omega) (by omega) (lc_40 h hR e1 e2 e3 hi1 hi2 hi3 bc bs KK))
  | 41, _, ek => qq_tabIn (tgt := 1811) (off := 1768) dL_law_43 h1 h2 (by rw [ek]; decide +kernel) (by decide) (qq_less (bc' := bc + 1) (bs' := bs + 6) (by omega) (by omega) (lc_41 h hR e1 e2 e3 hi1 hi2 hi3 bc bs KK))
  | 42, _, ek => qq_tabIn (tgt := 1839) (off := 1796) dL_law_43 h1 h2 (by rw [ek]; decide +kernel) (by decide) (qq_less (bc' := bc + 1) (bs' := bs + 6) (by omega) (by omega) (lc_42 h hR e1 e2 e3 hi1 hi2 hi3 bc bs KK))
  | 43, _, ek => qq_tabIn (tgt := 1867) (off := 1824) dL_law_43 h1 h2 (by rw [ek]; decide +kernel) (by decide) (qq_less (bc' := bc + 1) (bs' := bs + 6) (by omega) (by omega) (lc_43 h hR e1 e2 e3 hi1 hi2 hi3 bc bs KK))
  | 44, _, ek => qq_tabIn (tgt := 1895) (off := 1852) dL_law_43 h1 h2 (by rw [ek]; decide +kernel) (by decide) (qq_less (bc' := bc + 1) (bs' := bs + 6) (by omega) (by omega) (lc_44 h hR e1 e2 e3 hi1 hi2 hi3 bc bs KK))
  | 45, _, ek => qq_tabIn (tgt := 1923) (off := 1880) dL_law_43 h1 h2 (by rw [ek]; decide +kernel) (by decide) (qq_less (bc' := bc + 1) (bs' := bs + 6) (by omega) (by omega) (lc_45 h hR e1 e2 e3 hi1 hi2 hi3 bc bs KK))
  | 46, _, ek => qq_tabIn (tgt := 1951) (off := 1908) dL_law_43 h1 h2 (by rw [ek]; decide +kernel) (by decide) (qq_less (bc' := bc + 0) (bs' := bs + 0) (by omega) (by omega) (lc_46 h hR e1 e2 e3 hi1 hi2 hi3 bc bs KK))
  | 47, _, ek => qq_tabIn (tgt := 1964) (off := 1921) dL_law_43 h1 h2 (by rw [ek]; decide +kernel) (by decide) (qq_less (bc' := bc + 0) (bs' := bs + 0) (by omega) (by omega) (lc_47 h hR e1 e2 e3 hi1 hi2 hi3 bc bs KK))
  | 48, _, ek => qq_tabIn (tgt := 1977) (off := 1934) dL_law_43 h1 h2 (by rw [ek]; decide +kernel) (by decide) (qq_less (bc' := bc + 3000) (bs' := bs + 33000) (by omega) (by omega) (lc_48 h hR e1 e2 e3 hi1 hi2 hi3 bc bs KK))
  | k + 49, hk, _ => absurd hk (by omega)
theorem ll_step {n : Nat} {f : Nat → Int32} {P : Option Value → qq_H → Prop} {PX : String → qq_H → Prop} {S : sX} {T : sM} {hp : qq_H} (h : LI n f S T hp) (hR : RelL S T) {i : Int32} (hi : 0 ≤ i.toInt) (hin : i.toInt + 4 ≤ n) (hb : n ≤ 256) (bc bs : Nat) (KK : ∀ (hp' : qq_H) (S' : sX) (T' : sM), LI n f S' T' hp' → RelL S' T' → qq_Go mL_law hp' bc bs 1990 [(0, .ref 0), (1, .ref 80), (2, .ref 84), (3, .ref 419), (4, .int i)] [] P PX) : qq_Go mL_law hp (bc + 3000) (bs + 33000) 36 [(0, .ref 0), (1, .ref 80), (2, .ref 84), (3, .ref 419), (4, .int i)] [] P PX := by
  have hi0 : vp_in i n := by have := ll_in (i := i) 0 (by decide) hi hin hb; rw [Int32.add_zero] at this; exact this
  have hi1 : vp_in (i + 1) n := ll_in 1 (by decide) hi hin hb
  have hi2 : vp_in (i + 2) n := ll_in 2 (by decide) hi hin hb
  have hi3 : vp_in (i + 3) n := ll_in 3 (by decide) hi hin hb
  refine qq_aload_n dL_law_36 rfl 0 rfl ?_
  refine qq_iload dL_law_37 4 rfl ?_
  refine qq_iald dL_law_39 h.2.2.2.2.2 hi0 ?_
  refine qq_bipush (v := 63) dL_law_40 (by decide) ?_
  refine qq_iand dL_law_42 ?_
  obtain ⟨x, hx⟩ : ∃ x : Int32, f i.toNatClampNeg &&& 63 = x := ⟨_, rfl⟩
  rw [hx]
  by_cases h1 : x.toInt < 0
  · exact qq_less (bc' := bc) (bs' := bs) (by omega) (by omega) (qq_tabOut (tgt := 1990) dL_law_43 (Or.inl h1) (by decide) (KK hp S T h hR))
  by_cases h2 : ((48 : Nat) : Int) < x.toInt
  · exact qq_less (bc' := bc) (bs' := bs) (by omega) (by omega) (qq_tabOut (tgt := 1990) dL_law_43 (Or.inr h2) (by decide) (KK hp S T h hR))
  obtain ⟨k, hk, ek⟩ := ll_ex h1 h2
  exact ll_cs h hR rfl rfl rfl hi1 hi2 hi3 bc bs KK h1 h2 k hk ek
theorem ll_loop {n : Nat} {f : Nat → Int32} (hb : n ≤ 256) : ∀ (fu : Nat) (i : Int32) (S : sX) (T : sM) (hp : qq_H), LI n f S T hp → RelL S T → 0 ≤ i.toInt → i.toInt ≤ 256 → (n : Int) - 3 - i.toInt ≤ 4 * fu → qq_Go mL_law hp (fu * 3000) (fu * 33000) 27 [(0, .ref 0), (1, .ref 80), (2, .ref 84), (3, .ref 419), (4, .int i)] [] (fun v _ => v = some (.int 1)) (fun _ _ => False) := by
  intro fu
  induction fu with
  | zero =>
    intro i S T hp h hR hi hi2 hf
    refine qq_iload dL_law_27 4 rfl ?_
    refine qq_aload_n dL_law_29 rfl 0 rfl ?_
    refine qq_alen (v := Int32.ofNat n) dL_law_30 h.2.2.2.2.2 (Or.inl (by decide)) rfl ?_
    refine qq_iconst (v := 4) dL_law_31 (by decide) ?_
    refine qq_isub dL_law_32 ?_
    refine qq_icmp_gt (tgt := 1996) dL_law_33 (by decide) (fun zc => ?_) (fun zc => ?_)
    · refine qq_iconst (v := 1) dL_law_1996 (by decide) ?_
      exact qq_iret dL_law_1997 rfl rfl rfl
    · have e := ll_n4 hb
      rw [Int32.lt_iff_toInt_lt, e] at zc
      exact absurd zc (by omega)
  | succ fu ih =>
    intro i S T hp h hR hi hi2 hf
    refine qq_iload dL_law_27 4 rfl ?_
    refine qq_aload_n dL_law_29 rfl 0 rfl ?_
    refine qq_alen (v := Int32.ofNat n) dL_law_30 h.2.2.2.2.2 (Or.inl (by decide)) rfl ?_
    refine qq_iconst (v := 4) dL_law_31 (by decide) ?_
    refine qq_isub dL_law_32 ?_
    refine qq_icmp_gt (tgt := 1996) dL_law_33 (by decide) (fun zc => ?_) (fun zc => ?_)
    · refine qq_iconst (v := 1) dL_law_1996 (by decide) ?_
      exact qq_iret dL_law_1997 rfl rfl rfl
    · have e := ll_n4 hb
      rw [Int32.lt_iff_toInt_lt, e] at zc
      refine qq_less (bc' := fu * 3000 + 3000) (bs' := fu * 33000 + 33000) (by omega) (by omega) ?_
      refine ll_step h hR hi (by omega) hb (fu * 3000) (fu * 33000) (fun hp' S' T' h' hR' => ?_)
      have e4 := ll_4 (i := i) hi (by omega) hb
      refine qq_iinc (v := i + Int32.ofInt 4) (loc' := [(0, .ref 0), (1, .ref 80), (2, .ref 84), (3, .ref 419), (4, .int (i + Int32.ofInt 4))]) dL_law_1990 4 rfl rfl [1, 2, 3, 4, 0] (Nat.le_of_ble_eq_true rfl) rfl ?_
      refine qq_goto (tgt := 27) dL_law_1993 (by decide) ?_
      exact ih _ S' T' hp' h' hR' (by omega) (by omega) (by omega)
theorem mt_X6_init (hp : qq_H) : qq_Mt mX6_init [.ref 419] hp 0 0 (fun v hp' => v = none ∧ hp = hp') (fun _ _ => False) := by
  refine qq_met pn_X6 (Nat.le_of_ble_eq_true rfl) (Nat.le_of_ble_eq_true rfl) kc_X6_init ?_
  show qq_Go _ hp 0 0 0 [(0, .ref 419)] [] _ _
  refine qq_aload_n dX6_init_0 rfl 0 rfl ?_
  refine qq_objI dX6_init_1 kl_X6_1 kn_obj kc_obj (Nat.le_of_ble_eq_true rfl) ?_
  exact qq_vret dX6_init_4 rfl ⟨rfl, rfl⟩
theorem cs_k {S : sX} {hp hp' : qq_H} (h : cs_X S hp) (h1 : hp.1 ≤ hp'.1) (lo : ∀ j : Nat, j < 84 → hp'.2 j = hp.2 j) : cs_X S hp' := by
  obtain ⟨c1, c2, c3, c4, c5, c6⟩ := h
  exact ⟨qq_exm c1 h1 (fun k hk => lo k (by omega)), by omega, (lo _ (by decide)).trans c3, (lo _ (by decide)).trans c4, (lo _ (by decide)).trans c5, (lo _ (by decide)).trans c6⟩
theorem ll_nr {fs : List Value} (h : fs.all (fun v => match v with | .ref _ => false | _ => true) = true) : ∀ v ∈ fs, ∀ k, v ≠ .ref k := fun v hv k e => by
  have := List.all_eq_true.mp h v hv
  rw [e] at this
  exact nomatch this
theorem im_0 : IM mS0 := fun c hc => vq_z (Or.inl rfl)
set_option maxRecDepth 4000 in
theorem ll_start {n : Nat} {f : Nat → Int32} (hb : n ≤ 256) (hp : qq_H) (h80 : hp.1 = 80) (hE : qq_ex hp) (h0 : hp.2 0 = .inl (0, n, .inl f)) (hR0 : RelL (r_X5_init cX0) mS0) : qq_Go mL_law hp 600128 7301098 0 [(0, .ref 0)] [] (fun v _ => v = some (.int 1)) (fun _ _ => False) := by
  obtain ⟨m0, g0⟩ := hp
  obtain rfl : m0 = 80 := h80
  refine qq_new (ci := 2) (N := 6) (C := RX5) (T := TX5) (fs := [.null, .null, .null, .int 0, .int 0, .int 0]) (bc := 600127) (bs := 7301092) (ms := 6) dL_law_0 rfl ku_X5 tyX5 tyX5_ok kl_L_8 kz_X5 ki_X5 (by decide +kernel) (ll_nr rfl) (by decide) ?_
  obtain ⟨H1, eH1⟩ : ∃ H : qq_H, ((80 + 1, va_up g0 80 (.inr (2, [.null, .null, .null, .int 0, .int 0, .int 0]))) : qq_H) = H := ⟨_, rfl⟩
  refine qq_hp (hp2 := H1) eH1 ?_
  have nH1 : H1.1 = 81 := by rw [← eH1]
  have cH1 : H1.2 80 = .inr (2, [.null, .null, .null, .int 0, .int 0, .int 0]) := by rw [← eH1]; exact up_p
  have lH1 : ∀ j, j < 80 → H1.2 j = g0 j := fun j hj => by rw [← eH1]; exact up_o (by omega) rfl
  have x1 : qq_ex H1 := qq_exm hE (by show 80 ≤ H1.1; omega) (fun k hk => lH1 k hk)
  show qq_Go mL_law H1 600127 7301092 3 [(0, .ref 0)] [.ref 80] _ _
  refine qq_dup dL_law_3 rfl ?_
  refine qq_callI (bc := 600124) (bs := 7301068) (mc := 3) (ms := 24) (o := 80) (as := []) (rest := [.ref 80]) dL_law_4 (mt_X5_init H1 nH1 x1 cH1) rfl rfl rfl kl_L_166 kn_X5_init ki_X5 kc_X5_init kd_X5_init rfl (by decide) (by decide) (Nat.le_of_ble_eq_true rfl) (fun v H2 hv _ _ => ?_) (fun E hp' zx _ _ => zx.elim)
  obtain ⟨rfl, s2, n2, l2⟩ := hv
  show qq_Go mL_law H2 600124 7301068 7 [(0, .ref 0)] [.ref 80] _ _
  refine qq_astore_n (loc' := [(0, .ref 0), (1, .ref 80)]) dL_law_7 rfl [1, 0] (Nat.le_of_ble_eq_true rfl) rfl ?_
  obtain ⟨m2, g2⟩ := H2
  obtain rfl : m2 = 84 := n2
  refine qq_new (ci := 4) (N := 11) (C := RX7) (T := TX7) (fs := [.null, .null, .null, .null, .null, .null, .null, .int 0, .int 0, .int 0, .int 0]) (bc := 600123) (bs := 7301057) (ms := 11) dL_law_8 rfl ku_X7 tyX7 tyX7_ok kl_L_167 kz_X7 ki_X7 (by decide +kernel) (ll_nr rfl) (by decide) ?_
  obtain ⟨H3, eH3⟩ : ∃ H : qq_H, ((84 + 1, va_up g2 84 (.inr (4, [.null, .null, .null, .null, .null, .null, .null, .int 0, .int 0, .int 0, .int 0]))) : qq_H) = H := ⟨_, rfl⟩
  refine qq_hp (hp2 := H3) eH3 ?_
  have nH3 : H3.1 = 85 := by rw [← eH3]
  have cH3 : H3.2 84 = .inr (4, [.null, .null, .null, .null, .null, .null, .null, .int 0, .int 0, .int 0, .int 0]) := by rw [← eH3]; exact up_p
  have lH3 : ∀ j, j < 84 → H3.2 j = g2 j := fun j hj => by rw [← eH3]; exact up_o (by omega) rfl
  have x3 : qq_ex H3 := qq_exm s2.1 (by show 84 ≤ H3.1; omega) (fun k hk => lH3 k (by omega))
  show qq_Go mL_law H3 600123 7301057 11 [(0, .ref 0), (1, .ref 80)] [.ref 84] _ _
  refine qq_dup dL_law_11 rfl ?_
  refine qq_callI (bc := 599789) (bs := 7296857) (mc := 334) (ms := 4200) (o := 84) (as := []) (rest := [.ref 84]) dL_law_12 (mt_X7_init H3 nH3 x3 cH3) rfl rfl rfl kl_L_169 kn_X7_init ki_X7 kc_X7_init kd_X7_init rfl (by decide) (by decide) (Nat.le_of_ble_eq_true rfl) (fun v H4 hv _ _ => ?_) (fun E hp' zx _ _ => zx.elim)
  obtain ⟨rfl, s4, n4, l4⟩ := hv
  show qq_Go mL_law H4 599789 7296857 15 [(0, .ref 0), (1, .ref 80)] [.ref 84] _ _
  refine qq_astore_n (loc' := [(0, .ref 0), (1, .ref 80), (2, .ref 84)]) dL_law_15 rfl [1, 2, 0] (Nat.le_of_ble_eq_true rfl) rfl ?_
  obtain ⟨m4, g4⟩ := H4
  obtain rfl : m4 = 419 := n4
  refine qq_new (ci := 3) (N := 2) (C := RX6) (T := TX6) (fs := [.long 0, .null]) (bc := 599788) (bs := 7296855) (ms := 2) dL_law_16 rfl ku_X6 tyX6 tyX6_ok kl_L_14 kz_X6 ki_X6 (by decide +kernel) (ll_nr rfl) (by decide) ?_
  obtain ⟨H5, eH5⟩ : ∃ H : qq_H, ((419 + 1, va_up g4 419 (.inr (3, [.long 0, .null]))) : qq_H) = H := ⟨_, rfl⟩
  refine qq_hp (hp2 := H5) eH5 ?_
  have nH5 : H5.1 = 420 := by rw [← eH5]
  have cH5 : H5.2 419 = .inr (3, [.long 0, .null]) := by rw [← eH5]; exact up_p
  have lH5 : ∀ j, j < 419 → H5.2 j = g4 j := fun j hj => by rw [← eH5]; exact up_o (by omega) rfl
  show qq_Go mL_law H5 599788 7296855 19 [(0, .ref 0), (1, .ref 80), (2, .ref 84)] [.ref 419] _ _
  refine qq_dup dL_law_19 rfl ?_
  refine qq_callIN (bc := 599788) (bs := 7296855) (mc := 0) (ms := 0) (o := 419) (as := []) (rest := [.ref 419]) (host := "QuarterpowersLaw") dL_law_20 (mt_X6_init H5) rfl rfl rfl (by decide +kernel) kn_X6_init ki_X6 kc_X6_init kd_X6_init rfl (by decide) (by decide) (Nat.le_of_ble_eq_true rfl) (fun v H6 hv _ _ => ?_) (fun E hp' zx _ _ => zx.elim)
  obtain ⟨rfl, rfl⟩ := hv
  show qq_Go mL_law H5 599788 7296855 23 [(0, .ref 0), (1, .ref 80), (2, .ref 84)] [.ref 419] _ _
  refine qq_astore_n (loc' := [(0, .ref 0), (1, .ref 80), (2, .ref 84), (3, .ref 419)]) dL_law_23 rfl [1, 2, 3, 0] (Nat.le_of_ble_eq_true rfl) rfl ?_
  refine qq_iconst (v := 0) dL_law_24 (by decide) ?_
  refine qq_istore (loc' := [(0, .ref 0), (1, .ref 80), (2, .ref 84), (3, .ref 419), (4, .int 0)]) dL_law_25 [1, 2, 3, 4, 0] (Nat.le_of_ble_eq_true rfl) rfl ?_
  have lo : ∀ j, j < 84 → H5.2 j = g2 j := fun j hj => (lH5 j (by omega)).trans ((l4 j hj).trans (lH3 j hj))
  have hI : LI n f (r_X5_init cX0) mS0 H5 := ⟨cs_k s2 (by show 84 ≤ H5.1; omega) lo, ⟨_, (ms_g s4 (by show 419 ≤ H5.1; omega) (fun j hj => lH5 j hj)).1⟩, ⟨_, _, cH5⟩, by omega, im_0, (lo 0 (by decide)).trans ((l2 0 (by decide)).trans ((lH1 0 (by decide)).trans h0))⟩
  refine qq_less (bc' := 64 * 3000) (bs' := 64 * 33000) (by decide) (by decide) ?_
  exact ll_loop hb 64 0 _ _ H5 hI hR0 (by decide) (by decide) (by have : (0 : Int32).toInt = 0 := rfl; omega)
