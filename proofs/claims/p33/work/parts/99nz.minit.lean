def mS0 : sM := ((fun _ => 0), (fun _ => 0), (fun _ => 0), 0, 0, 0, 0)
def cpw (n j : Nat) : Option Nat := if 160 < n + j ∧ j < 160 + n then some (pr j) else none
/-- the constructor's loop, before the n-th round; rows by name -/
def cj (PWf : Nat → qR) (p tw r0 r1 : qR) (hp : qq_H) (n : Nat) (H : qq_H) : Prop :=
  H.1 = 97 + 2 * n ∧ (∀ j, j < 84 → H.2 j = hp.2 j) ∧ H.2 84 = .inr (4, ms_ob (91, 92, 93) mS0) ∧ H.2 85 = .inl (4, 321, .inr (.inr (.inr (.inr (cpw n))))) ∧ H.2 86 = .inl (4, 164, .inr (.inr (.inr (.inr (fun _ => none))))) ∧ H.2 89 = c_row tw ∧ H.2 90 = .inl (0, 22, .inl p) ∧
  H.2 91 = .inl (0, 8, .inl (fun _ => 0)) ∧ H.2 92 = .inl (0, 8, .inl (fun _ => 0)) ∧ H.2 93 = .inl (2, 8, .inl (fun _ => 0)) ∧ H.2 95 = c_row r0 ∧ H.2 97 = c_row r1 ∧ ∀ j, 160 < n + j → j < 160 + n → H.2 (pr j) = c_row (PWf j)
abbrev ci (hp : qq_H) (n : Nat) (H : qq_H) : Prop := cj PW (pwS (n - 1) pw0).1 TWO (r_X7_root 0).1 (r_X7_root 1).1 hp n H
theorem up_p {n o : Nat} {f : Nat → qq_C} {c : qq_C} : ((n, va_up f o c) : qq_H).2 o = c := up_s
theorem pr_up {n : Nat} (h : 1 ≤ n) : pr (160 + n) = 97 + 2 * n := by
  unfold pr
  rw [if_neg (by omega), if_pos (by omega)]
  omega
theorem pr_dn {n : Nat} (h : 1 ≤ n) (h2 : n ≤ 160) : pr (160 - n) = 98 + 2 * n := by
  unfold pr
  rw [if_neg (by omega), if_neg (by omega)]
  omega
theorem pr_lt {n j : Nat} (hn : 1 ≤ n) (h : 160 < n + j) (h2 : j < 160 + n) (h3 : n ≤ 161) : 94 ≤ pr j ∧ pr j < 97 + 2 * n ∧ pr j ≠ 95 ∧ pr j ≠ 97 := by
  unfold pr
  split
  · omega
  · split <;> omega
theorem PW_up {n : Nat} : PW (160 + n) = (pwS n pw0).2.1 := by
  unfold PW
  rw [if_pos (by omega), Nat.add_sub_cancel_left]
theorem PW_dn {n : Nat} (h : n ≤ 160) : PW (160 - n) = (pwS n pw0).2.2 := by
  unfold PW
  by_cases e : n = 0
  · subst e
    rfl
  · rw [if_neg (by omega)]
    have e2 : 160 - (160 - n) = n := by omega
    rw [e2]
/-- one round: the row above, then that below -/
theorem cj_n {PWf : Nat → qR} {p p1 p2 a b tw r0 r1 : qR} {hp H H1 H2 H3 H4 : qq_H} {n : Nat} (hn : 1 ≤ n) (hm : n ≤ 160) (h : cj PWf p tw r0 r1 hp n H) (ha : PWf (160 + n) = a) (hb : PWf (160 - n) = b)
    (e1 : qq_nw (qq_pt H 90 (.inl (0, 22, .inl p1))) (.inl (0, 11, .inl a)) = H1)
    (e2 : (H1.1, va_up H1.2 85 (.inl (4, 321, .inr (.inr (.inr (.inr (va_up (cpw n) (160 + n) (some H.1)))))))) = H2)
    (e3 : qq_nw (qq_pt H2 90 (.inl (0, 22, .inl p2))) (.inl (0, 11, .inl b)) = H3)
    (e4 : (H3.1, va_up H3.2 85 (.inl (4, 321, .inr (.inr (.inr (.inr (va_up (va_up (cpw n) (160 + n) (some H.1)) (160 - n) (some H2.1)))))))) = H4) : cj PWf p2 tw r0 r1 hp (n + 1) H4 := by
  obtain ⟨h1, h2, h3, h4, h5, h6, h7, h8, h9, h10, h11, h12, h13⟩ := h
  have s1 : H1.1 = H.1 + 1 := by rw [← e1]; rfl
  have s2 : H2.1 = H.1 + 1 := by rw [← e2]; exact s1
  have s3 : H3.1 = H2.1 + 1 := by rw [← e3]; rfl
  have s4 : H4.1 = H3.1 := by rw [← e4]
  have o1 : ∀ j, j < H.1 → j ≠ 90 → H1.2 j = H.2 j := fun j a b => by
    rw [← e1]
    exact up_o (show j ≠ H.1 by omega) (up_o b rfl)
  have o2 : ∀ j, j ≠ 85 → H2.2 j = H1.2 j := fun j a => by rw [← e2]; exact up_o a rfl
  have o3 : ∀ j, j < H2.1 → j ≠ 90 → H3.2 j = H2.2 j := fun j a b => by
    rw [← e3]
    exact up_o (show j ≠ H2.1 by omega) (up_o b rfl)
  have o4 : ∀ j, j ≠ 85 → H4.2 j = H3.2 j := fun j a => by rw [← e4]; exact up_o a rfl
  have o : ∀ j, j < H.1 → j ≠ 85 → j ≠ 90 → H4.2 j = H.2 j := fun j a b c => by
    rw [o4 j b, o3 j (by omega) c, o2 j b, o1 j a c]
  have n1 : H4.2 H.1 = c_row a := by
    rw [o4 _ (by omega), o3 _ (by omega) (by omega), o2 _ (by omega), ← e1]
    exact up_s
  have n2 : H4.2 H2.1 = c_row b := by
    rw [o4 _ (by omega), ← e3]
    exact up_s
  have ef : va_up (va_up (cpw n) (160 + n) (some H.1)) (160 - n) (some H2.1) = cpw (n + 1) := by
    funext j
    simp only [va_up, cpw]
    by_cases c1 : j = 160 - n
    · have e5 : H2.1 = pr j := by rw [c1, pr_dn hn hm]; omega
      rw [if_pos c1, if_pos (by omega), e5]
    · rw [if_neg c1]
      by_cases c2 : j = 160 + n
      · have e5 : H.1 = pr j := by rw [c2, pr_up hn]; omega
        rw [if_pos c2, if_pos (by omega), e5]
      · rw [if_neg c2]
        by_cases c3 : 160 < n + j ∧ j < 160 + n
        · rw [if_pos c3, if_pos (by omega)]
        · rw [if_neg c3, if_neg (by omega)]
  have f85 : H4.2 85 = .inl (4, 321, .inr (.inr (.inr (.inr (cpw (n + 1)))))) := by
    rw [← e4, ← ef]
    exact up_p
  have f90 : H4.2 90 = .inl (0, 22, .inl p2) := by
    rw [o4 90 (by decide), ← e3]
    exact up_o (show (90 : Nat) ≠ H2.1 by omega) qq_pts
  have frow : ∀ j, 160 < n + 1 + j → j < 160 + (n + 1) → H4.2 (pr j) = c_row (PWf j) := fun j j1 j2 => by
    by_cases c1 : j = 160 - n
    · have e5 : pr j = H2.1 := by rw [c1, pr_dn hn hm]; omega
      rw [e5, n2, c1, hb]
    · by_cases c2 : j = 160 + n
      · have e5 : pr j = H.1 := by rw [c2, pr_up hn]; omega
        rw [e5, n1, c2, ha]
      · have hl := pr_lt (n := n) (j := j) hn (by omega) (by omega) (by omega)
        rw [o (pr j) (by omega) (by omega) (by omega)]
        exact h13 j (by omega) (by omega)
  exact ⟨by omega, fun j hj => (o j (by omega) (by omega) (by omega)).trans (h2 j hj), (o 84 (by omega) (by decide) (by decide)).trans h3, f85, (o 86 (by omega) (by decide) (by decide)).trans h5, (o 89 (by omega) (by decide) (by decide)).trans h6, f90, (o 91 (by omega) (by decide) (by decide)).trans h8, (o 92 (by omega) (by decide) (by decide)).trans h9, (o 93 (by omega) (by decide) (by decide)).trans h10, (o 95 (by omega) (by decide) (by decide)).trans h11, (o 97 (by omega) (by decide) (by decide)).trans h12, frow⟩
/-- the rows' own names -/
theorem pw_n {k : Nat} (hm : k + 1 ≤ 160) : PW (160 + (k + 1)) = (r_X7_times (pwS k pw0).1 (PW (159 + (k + 1))) (r_X7_root 0).1).2 ∧ PW (160 - (k + 1)) = (r_X7_times (r_X7_times (pwS k pw0).1 (PW (159 + (k + 1))) (r_X7_root 0).1).1 (PW (161 - (k + 1))) (r_X7_root 1).1).2 ∧ (pwS (k + 1) pw0).1 = (r_X7_times (r_X7_times (pwS k pw0).1 (PW (159 + (k + 1))) (r_X7_root 0).1).1 (PW (161 - (k + 1))) (r_X7_root 1).1).1 := by
  have ep : PW (159 + (k + 1)) = (pwS k pw0).2.1 := by
    rw [show 159 + (k + 1) = 160 + k by omega]
    exact PW_up
  have eq : PW (161 - (k + 1)) = (pwS k pw0).2.2 := by
    rw [show 161 - (k + 1) = 160 - k by omega]
    exact PW_dn (by omega)
  rw [PW_up, PW_dn hm, ep, eq, pwS_s]
  exact ⟨pwT_2 _, pwT_3 _, pwT_1 _⟩
theorem ci_end {hp H : qq_H} (hE : qq_ex hp) (h : ci hp 161 H) : ms_M (91, 92, 93) mS0 H := by
  obtain ⟨h1, h2, h3, h4, h5, h6, h7, h8, h9, h10, h11, h12, h13⟩ := h
  refine ⟨⟨by rw [h1]; decide, fun k a b => (h2 k (by omega)).trans (hE.2 k a b)⟩, by omega, h3, h8, h9, h10, ⟨⟨by decide, by rw [h1]; decide⟩, ⟨by decide, by rw [h1]; decide⟩, ⟨by decide, by rw [h1]; decide⟩, by decide⟩, ⟨_, h4, fun j hj => ?_⟩, fun j hj => h13 j (by omega) (by omega), h6, _, h5, fun j r _ hr => nomatch hr⟩
  unfold cpw
  rw [if_pos (by omega)]
theorem ix_up {k : Int32} {n : Nat} (h : k.toInt = n) (hn : n ≤ 200) : (160 + k).toNatClampNeg = 160 + n ∧ (160 + k).toInt = 160 + n := by
  have e : (160 : Int32).toInt = 160 := rfl
  have e2 : (160 + k).toInt = 160 + n := by
    rw [Int32.toInt_add, e, h, Int.bmod_eq_of_le (by omega) (by omega)]
  refine ⟨?_, e2⟩
  show (160 + k).toInt.toNat = _
  omega
theorem ix_up1 {k : Int32} {n : Nat} (h : k.toInt = n) (h1 : 1 ≤ n) (hn : n ≤ 200) : ((160 + k) - 1).toNatClampNeg = 159 + n := by
  have e : (1 : Int32).toInt = 1 := rfl
  have e2 : ((160 + k) - 1).toInt = 159 + n := by
    rw [Int32.toInt_sub, (ix_up h hn).2, e, Int.bmod_eq_of_le (by omega) (by omega)]
    omega
  show ((160 + k) - 1).toInt.toNat = _
  omega
theorem ix_dn {k : Int32} {n : Nat} (h : k.toInt = n) (hn : n ≤ 160) : (160 - k).toNatClampNeg = 160 - n ∧ (160 - k).toInt = 160 - n := by
  have e : (160 : Int32).toInt = 160 := rfl
  have e2 : (160 - k).toInt = 160 - n := by
    rw [Int32.toInt_sub, e, h, Int.bmod_eq_of_le (by omega) (by omega)]
  refine ⟨?_, e2⟩
  show (160 - k).toInt.toNat = _
  omega
theorem ix_dn1 {k : Int32} {n : Nat} (h : k.toInt = n) (h1 : 1 ≤ n) (hn : n ≤ 160) : ((160 - k) + 1).toNatClampNeg = 161 - n := by
  have e : (1 : Int32).toInt = 1 := rfl
  have e2 : ((160 - k) + 1).toInt = 161 - n := by
    rw [Int32.toInt_add, (ix_dn h hn).2, e, Int.bmod_eq_of_le (by omega) (by omega)]
    omega
  show ((160 - k) + 1).toInt.toNat = _
  omega
theorem ix_in {i : Int32} {m N : Nat} (h : i.toNatClampNeg = m) (h1 : m < N) (h2 : 0 ≤ i.toInt) : vp_in i N := by
  rw [vp_in_iff]
  have e : i.toNatClampNeg = i.toInt.toNat := rfl
  omega
set_option maxRecDepth 4000 in
theorem lq_X7_init_89 {P : Option Value → qq_H → Prop} {PX : String → qq_H → Prop} (hp : qq_H) (hk : ∀ H, ci hp 161 H → P none H) : ∀ (fu n : Nat) (k9 : Int32) (H : qq_H), ci hp n H → k9.toInt = n → 1 ≤ n → n + fu = 161 → qq_Go mX7_init H (2 * fu) (22 * fu) 89 [(0, .ref 84), (1, .ref 95), (2, .ref 97), (3, .int k9)] [] P PX := by
  intro fu
  induction fu with
  | zero =>
    intro n k9 H h hk9 h1 hfu
    have e161 : n = 161 := by omega
    subst e161
    refine qq_iload_n dX7_init_89 rfl 3 rfl ?_
    refine qq_sipush (v := 160) dX7_init_90 (by decide) ?_
    refine qq_icmp_gt (tgt := 156) dX7_init_93 (by decide) (fun zc => ?_) (fun zc => ?_)
    · exact qq_vret dX7_init_156 rfl (hk H h)
    · exact absurd (by rw [Int32.lt_iff_toInt_lt, hk9]; decide) zc
  | succ fu ih =>
    intro n k9 H h hk9 h1 hfu
    have hc := h
    obtain ⟨h1', h2, h3, h4, h5, h6, h7, h8, h9, h10, h11, h12, h13⟩ := h
    obtain ⟨i1, i1'⟩ := ix_up hk9 (by omega)
    have i2 := ix_up1 hk9 h1 (by omega)
    obtain ⟨i3, i3'⟩ := ix_dn hk9 (by omega)
    have i4 := ix_dn1 hk9 h1 (by omega)
    refine qq_less (bc' := 2 * fu + 1 + 1) (bs' := 22 * fu + 11 + 11) (by omega) (by omega) ?_
    refine qq_iload_n dX7_init_89 rfl 3 rfl ?_
    refine qq_sipush (v := 160) dX7_init_90 (by decide) ?_
    refine qq_icmp_gt (tgt := 156) dX7_init_93 (by decide) (fun zc => ?_) (fun zc => ?_)
    · exact absurd zc (by rw [Int32.lt_iff_toInt_lt, hk9]; show ¬ (160 : Int) < n; omega)
    · have e160 : (160 : Int32).toInt = 160 := rfl
      refine qq_aload_n dX7_init_96 rfl 0 rfl ?_
      refine qq_get (C := RX7) (T := TX7) (N := 11) dX7_init_97 h3 rfl 0 (by decide) rfl ku_X7 kl_X7_11 ?_
      refine qq_sipush (v := 160) dX7_init_100 (by decide) ?_
      refine qq_iload_n dX7_init_103 rfl 3 rfl ?_
      refine qq_iadd dX7_init_104 ?_
      refine qq_aload_n dX7_init_105 rfl 0 rfl ?_
      refine qq_aload_n dX7_init_106 rfl 0 rfl ?_
      refine qq_get (C := RX7) (T := TX7) (N := 11) dX7_init_107 h3 rfl 0 (by decide) rfl ku_X7 kl_X7_11 ?_
      refine qq_sipush (v := 160) dX7_init_110 (by decide) ?_
      refine qq_iload_n dX7_init_113 rfl 3 rfl ?_
      refine qq_iadd dX7_init_114 ?_
      refine qq_iconst (v := 1) dX7_init_115 (by decide) ?_
      refine qq_isub dX7_init_116 ?_
      refine qq_aald dX7_init_117 h4 (Or.inl ⟨rfl, by decide⟩) (ix_in i2 (by omega) (by have e1 : (1 : Int32).toInt = 1 := rfl; rw [Int32.toInt_sub, i1', e1, Int.bmod_eq_of_le (by omega) (by omega)]; omega)) ?_
      rw [i2]
      have c1 : cpw n (159 + n) = some (pr (159 + n)) := by unfold cpw; rw [if_pos (by omega)]
      rw [c1]
      show qq_Go _ H _ _ 118 [(0, .ref 84), (1, .ref 95), (2, .ref 97), (3, .int k9)] [.ref (pr (159 + n)), .ref 84, .int (160 + k9), .ref 85] _ _
      obtain ⟨q1, q2, q3, q4⟩ := pr_lt (n := n) (j := 159 + n) h1 (by omega) (by omega) (by omega)
      refine qq_aload_n dX7_init_118 rfl 1 rfl ?_
      refine qq_callV (bc := 2 * fu + 1) (bs := 22 * fu + 11) (mc := 1) (ms := 11) (o := 84) (ci := 4) (N := 11) (T := TX7) (as := [.ref (pr (159 + n)), .ref 95]) (rest := [.int (160 + k9), .ref 85]) dX7_init_119 h3 (by decide) rfl (mt_X7_times H (pr (159 + n)) 95 _ _ _ h7 (h13 _ (by omega) (by omega)) h11 _ h3 rfl (by omega) (by omega) (by omega) (by omega) (by omega) (by decide) (by omega)) rfl kl_X7_46 kn_X7_times ke_X7_times ki_X7 kc_X7_times kd_X7_times rfl (by decide) (by decide) (Nat.le_of_ble_eq_true rfl) (fun v H1 hv _ _ => ?_) (fun E hp' zx _ _ => zx.elim)
      obtain ⟨rfl, e1⟩ := hv
      show qq_Go _ H1 (2 * fu + 1) (22 * fu + 11) 122 [(0, .ref 84), (1, .ref 95), (2, .ref 97), (3, .int k9)] [.ref H.1, .int (160 + k9), .ref 85] _ _
      have g1 : H1.1 = H.1 + 1 := by rw [← e1]; rfl
      have o1 : ∀ j, j < H.1 → j ≠ 90 → H1.2 j = H.2 j := fun j a b => by
        rw [← e1]
        exact up_o (show j ≠ H.1 by omega) (up_o b rfl)
      have r1 : H1.2 H.1 = .inl (0, 11, .inl (r_X7_times (pwS (n - 1) pw0).1 (PW (159 + n)) (r_X7_root 0).1).2) := by rw [← e1]; exact up_s
      refine qq_aastA (nv := 0) dX7_init_122 ((o1 85 (by omega) (by decide)).trans h4) (by decide) r1 (show 80 ≤ H.1 by omega) (ix_in i1 (by omega) (by omega)) ?_
      rw [i1]
      obtain ⟨H2, e2⟩ : ∃ h : qq_H, (H1.1, va_up H1.2 85 (.inl (4, 321, .inr (.inr (.inr (.inr (va_up (cpw n) (160 + n) (some H.1)))))))) = h := ⟨_, rfl⟩
      refine qq_hp e2 ?_
      have g2 : H2.1 = H.1 + 1 := by rw [← e2]; exact g1
      have o2 : ∀ j, j ≠ 85 → H2.2 j = H1.2 j := fun j a => by rw [← e2]; exact up_o a rfl
      have oo : ∀ j, j < H.1 → j ≠ 85 → j ≠ 90 → H2.2 j = H.2 j := fun j a b c => (o2 j b).trans (o1 j a c)
      have g3 : H2.2 84 = .inr (4, ms_ob (91, 92, 93) mS0) := (oo 84 (by omega) (by decide) (by decide)).trans h3
      have g4 : H2.2 85 = .inl (4, 321, .inr (.inr (.inr (.inr (va_up (cpw n) (160 + n) (some H.1)))))) := by rw [← e2]; exact up_p
      have g7 : H2.2 90 = .inl (0, 22, .inl (r_X7_times (pwS (n - 1) pw0).1 (PW (159 + n)) (r_X7_root 0).1).1) := by
        rw [o2 90 (by decide), ← e1]
        exact up_o (show (90 : Nat) ≠ H.1 by omega) qq_pts
      refine qq_aload_n dX7_init_123 rfl 0 rfl ?_
      refine qq_get (C := RX7) (T := TX7) (N := 11) dX7_init_124 g3 rfl 0 (by decide) rfl ku_X7 kl_X7_11 ?_
      refine qq_sipush (v := 160) dX7_init_127 (by decide) ?_
      refine qq_iload_n dX7_init_130 rfl 3 rfl ?_
      refine qq_isub dX7_init_131 ?_
      refine qq_aload_n dX7_init_132 rfl 0 rfl ?_
      refine qq_aload_n dX7_init_133 rfl 0 rfl ?_
      refine qq_get (C := RX7) (T := TX7) (N := 11) dX7_init_134 g3 rfl 0 (by decide) rfl ku_X7 kl_X7_11 ?_
      refine qq_sipush (v := 160) dX7_init_137 (by decide) ?_
      refine qq_iload_n dX7_init_140 rfl 3 rfl ?_
      refine qq_isub dX7_init_141 ?_
      refine qq_iconst (v := 1) dX7_init_142 (by decide) ?_
      refine qq_iadd dX7_init_143 ?_
      refine qq_aald dX7_init_144 g4 (Or.inl ⟨rfl, by decide⟩) (ix_in i4 (by omega) (by have e1 : (1 : Int32).toInt = 1 := rfl; rw [Int32.toInt_add, i3', e1, Int.bmod_eq_of_le (by omega) (by omega)]; omega)) ?_
      rw [i4]
      have c2 : va_up (cpw n) (160 + n) (some H.1) (161 - n) = some (pr (161 - n)) := by
        simp only [va_up, cpw]
        rw [if_neg (by omega), if_pos (by omega)]
      rw [c2]
      show qq_Go _ H2 _ _ 145 [(0, .ref 84), (1, .ref 95), (2, .ref 97), (3, .int k9)] [.ref (pr (161 - n)), .ref 84, .int (160 - k9), .ref 85] _ _
      obtain ⟨p1, p2, p3, p4⟩ := pr_lt (n := n) (j := 161 - n) h1 (by omega) (by omega) (by omega)
      refine qq_aload_n dX7_init_145 rfl 2 rfl ?_
      refine qq_callV (bc := 2 * fu) (bs := 22 * fu) (mc := 1) (ms := 11) (o := 84) (ci := 4) (N := 11) (T := TX7) (as := [.ref (pr (161 - n)), .ref 97]) (rest := [.int (160 - k9), .ref 85]) dX7_init_146 g3 (by decide) rfl (mt_X7_times H2 (pr (161 - n)) 97 _ _ _ g7 ((oo _ (by omega) (by omega) (by omega)).trans (h13 _ (by omega) (by omega))) ((oo 97 (by omega) (by decide) (by decide)).trans h12) _ g3 rfl (by omega) (by omega) (by omega) (by omega) (by omega) (by decide) (by omega)) rfl kl_X7_46 kn_X7_times ke_X7_times ki_X7 kc_X7_times kd_X7_times rfl (by decide) (by decide) (Nat.le_of_ble_eq_true rfl) (fun v H3 hv _ _ => ?_) (fun E hp' zx _ _ => zx.elim)
      obtain ⟨rfl, e3⟩ := hv
      show qq_Go _ H3 (2 * fu) (22 * fu) 149 [(0, .ref 84), (1, .ref 95), (2, .ref 97), (3, .int k9)] [.ref H2.1, .int (160 - k9), .ref 85] _ _
      have o3 : ∀ j, j < H2.1 → j ≠ 90 → H3.2 j = H2.2 j := fun j a b => by
        rw [← e3]
        exact up_o (show j ≠ H2.1 by omega) (up_o b rfl)
      have r3 : H3.2 H2.1 = .inl (0, 11, .inl (r_X7_times (r_X7_times (pwS (n - 1) pw0).1 (PW (159 + n)) (r_X7_root 0).1).1 (PW (161 - n)) (r_X7_root 1).1).2) := by rw [← e3]; exact up_s
      refine qq_aastA (nv := 0) dX7_init_149 ((o3 85 (by omega) (by decide)).trans g4) (by decide) r3 (show 80 ≤ H2.1 by omega) (ix_in i3 (by omega) (by omega)) ?_
      rw [i3]
      obtain ⟨H4, e4⟩ : ∃ h : qq_H, (H3.1, va_up H3.2 85 (.inl (4, 321, .inr (.inr (.inr (.inr (va_up (va_up (cpw n) (160 + n) (some H.1)) (160 - n) (some H2.1)))))))) = h := ⟨_, rfl⟩
      refine qq_hp e4 ?_
      refine qq_iinc (v := k9 + 1) (loc' := [(0, .ref 84), (1, .ref 95), (2, .ref 97), (3, .int (k9 + 1))]) dX7_init_150 3 rfl rfl [1, 2, 3, 0] (Nat.le_of_ble_eq_true rfl) rfl ?_
      refine qq_goto (tgt := 89) dX7_init_153 (by decide) ?_
      obtain ⟨m, rfl⟩ : ∃ m, n = m + 1 := ⟨n - 1, by omega⟩
      obtain ⟨w1, w2, w3⟩ := pw_n (k := m) (by omega)
      have hN : ci hp (m + 1 + 1) H4 := by
        show cj PW (pwS (m + 1) pw0).1 _ _ _ hp (m + 1 + 1) H4
        rw [w3]
        exact cj_n h1 (by omega) hc w1 w2 e1 e2 e3 e4
      refine ih (m + 1 + 1) (k9 + 1) H4 hN ?_ (by omega) (by omega)
      have e1' : (1 : Int32).toInt = 1 := rfl
      rw [Int32.toInt_add, hk9, e1', Int.bmod_eq_of_le (by omega) (by omega)]
      omega
set_option maxRecDepth 4000 in
theorem mt_X7_init (hp : qq_H) (h85 : hp.1 = 85) (hE : qq_ex hp) (h84 : hp.2 84 = .inr (4, [.null, .null, .null, .null, .null, .null, .null, .int 0, .int 0, .int 0, .int 0])) : qq_Mt mX7_init [.ref 84] hp 334 4200 (fun v hp' => v = none ∧ ms_M (91, 92, 93) mS0 hp' ∧ hp'.1 = 419 ∧ ∀ j, j < 84 → hp'.2 j = hp.2 j) (fun _ _ => False) := by
  refine qq_met pn_X7 (Nat.le_of_ble_eq_true rfl) (Nat.le_of_ble_eq_true rfl) kc_X7_init ?_
  show qq_Go _ hp 334 4200 0 [(0, .ref 84)] [] _ _
  refine qq_aload_n dX7_init_0 rfl 0 rfl ?_
  refine qq_objI dX7_init_1 kl_X7_1 kn_obj kc_obj (Nat.le_of_ble_eq_true rfl) ?_
  have z84 : hp.2 84 = .inr (4, [.null, .null, .null, .null, .null, .null, .null, .int 0, .int 0, .int 0, .int 0]) := h84
  have zs : hp.1 = 85 := h85
  have zb : ∀ j, j < 84 → hp.2 j = hp.2 j := fun _ _ => rfl
  refine qq_aload_n dX7_init_4 rfl 0 rfl ?_
  refine qq_sipush (v := 321) dX7_init_5 (by decide) ?_
  refine qq_newA (bc := 333) (bs := 3879) (N' := 321) (ms := 321) dX7_init_8 kl_X7_9 (by decide) rfl (Nat.le_of_ble_eq_true rfl) (Nat.le_refl _) ?_
  obtain ⟨Ha1, he1⟩ : ∃ h : qq_H, qq_nw hp (.inl (4, 321, .inr (.inr (.inr (.inr (fun _ => none)))))) = h := ⟨_, rfl⟩
  refine qq_hp (hp2 := Ha1) he1 ?_
  have zk1 : ∀ j, j < 85 → Ha1.2 j = hp.2 j := fun j hj => by rw [← he1]; exact up_o (show j ≠ hp.1 by omega) rfl
  have zn1 : Ha1.2 85 = .inl (4, 321, .inr (.inr (.inr (.inr (fun _ => none))))) := by rw [← he1, ← zs]; exact up_s
  have zs1 : Ha1.1 = 86 := by rw [← he1]; show hp.1 + 1 = _; omega
  have zo1 : Ha1.2 84 = .inr (4, [.null, .null, .null, .null, .null, .null, .null, .int 0, .int 0, .int 0, .int 0]) := (zk1 84 (by decide)).trans z84
  have zc1 : ∀ j, j < 84 → Ha1.2 j = hp.2 j := fun j hj => (zk1 j (by omega)).trans (zb j hj)
  rw [show hp.1 = 85 by omega]
  refine qq_putF (C := RX7) (T := TX7) (N := 11) (ty := .array (.array .int)) dX7_init_11 zo1 (by decide) rfl 0 (by decide) (Nat.le_of_ble_eq_true rfl) ku_X7 kl_X7_11 tyX7 tyX7_ok nmX7 rfl rfl rfl (by decide +kernel) (fun _ => rfl) (fun _ => rfl) ?_
  obtain ⟨Ha2, he2⟩ : ∃ h : qq_H, (Ha1.1, va_up Ha1.2 84 (.inr (4, ([.null, .null, .null, .null, .null, .null, .null, .int 0, .int 0, .int 0, .int 0] : List Value).set 0 (.ref 85)))) = h := ⟨_, rfl⟩
  refine qq_hp (hp2 := Ha2) he2 ?_
  have zk2 : ∀ j, j ≠ 84 → Ha2.2 j = Ha1.2 j := fun j hj => by rw [← he2]; exact up_o hj rfl
  have zo2 : Ha2.2 84 = .inr (4, [.ref 85, .null, .null, .null, .null, .null, .null, .int 0, .int 0, .int 0, .int 0]) := by rw [← he2]; exact up_p
  have zs2 : Ha2.1 = 86 := by rw [← he2]; exact zs1
  have zc2 : ∀ j, j < 84 → Ha2.2 j = hp.2 j := fun j hj => (zk2 j (by omega)).trans (zc1 j hj)
  have zf2_85 : Ha2.2 85 = .inl (4, 321, .inr (.inr (.inr (.inr (fun _ => none))))) := (zk2 85 (by decide)).trans zn1
  refine qq_aload_n dX7_init_14 rfl 0 rfl ?_
  refine qq_sipush (v := 164) dX7_init_15 (by decide) ?_
  refine qq_newA (bc := 332) (bs := 3715) (N' := 164) (ms := 164) dX7_init_18 kl_X7_9 (by decide) rfl (Nat.le_of_ble_eq_true rfl) (Nat.le_refl _) ?_
  obtain ⟨Ha3, he3⟩ : ∃ h : qq_H, qq_nw Ha2 (.inl (4, 164, .inr (.inr (.inr (.inr (fun _ => none)))))) = h := ⟨_, rfl⟩
  refine qq_hp (hp2 := Ha3) he3 ?_
  have zk3 : ∀ j, j < 86 → Ha3.2 j = Ha2.2 j := fun j hj => by rw [← he3]; exact up_o (show j ≠ Ha2.1 by omega) rfl
  have zn3 : Ha3.2 86 = .inl (4, 164, .inr (.inr (.inr (.inr (fun _ => none))))) := by rw [← he3, ← zs2]; exact up_s
  have zs3 : Ha3.1 = 87 := by rw [← he3]; show Ha2.1 + 1 = _; omega
  have zf3_85 : Ha3.2 85 = .inl (4, 321, .inr (.inr (.inr (.inr (fun _ => none))))) := (zk3 85 (by decide)).trans zf2_85
  have zo3 : Ha3.2 84 = .inr (4, [.ref 85, .null, .null, .null, .null, .null, .null, .int 0, .int 0, .int 0, .int 0]) := (zk3 84 (by decide)).trans zo2
  have zc3 : ∀ j, j < 84 → Ha3.2 j = hp.2 j := fun j hj => (zk3 j (by omega)).trans (zc2 j hj)
  rw [show Ha2.1 = 86 by omega]
  refine qq_putF (C := RX7) (T := TX7) (N := 11) (ty := .array (.array .int)) dX7_init_21 zo3 (by decide) rfl 1 (by decide) (Nat.le_of_ble_eq_true rfl) ku_X7 kl_X7_15 tyX7 tyX7_ok nmX7 rfl rfl rfl (by decide +kernel) (fun _ => rfl) (fun _ => rfl) ?_
  obtain ⟨Ha4, he4⟩ : ∃ h : qq_H, (Ha3.1, va_up Ha3.2 84 (.inr (4, ([.ref 85, .null, .null, .null, .null, .null, .null, .int 0, .int 0, .int 0, .int 0] : List Value).set 1 (.ref 86)))) = h := ⟨_, rfl⟩
  refine qq_hp (hp2 := Ha4) he4 ?_
  have zk4 : ∀ j, j ≠ 84 → Ha4.2 j = Ha3.2 j := fun j hj => by rw [← he4]; exact up_o hj rfl
  have zo4 : Ha4.2 84 = .inr (4, [.ref 85, .ref 86, .null, .null, .null, .null, .null, .int 0, .int 0, .int 0, .int 0]) := by rw [← he4]; exact up_p
  have zs4 : Ha4.1 = 87 := by rw [← he4]; exact zs3
  have zc4 : ∀ j, j < 84 → Ha4.2 j = hp.2 j := fun j hj => (zk4 j (by omega)).trans (zc3 j hj)
  have zf4_85 : Ha4.2 85 = .inl (4, 321, .inr (.inr (.inr (.inr (fun _ => none))))) := (zk4 85 (by decide)).trans zf3_85
  have zf4_86 : Ha4.2 86 = .inl (4, 164, .inr (.inr (.inr (.inr (fun _ => none))))) := (zk4 86 (by decide)).trans zn3
  refine qq_aload_n dX7_init_24 rfl 0 rfl ?_
  refine qq_iconst (v := 1) dX7_init_25 (by decide) ?_
  refine qq_iconst (v := 3) dX7_init_26 (by decide) ?_
  refine qq_callS (bc := 329) (bs := 3682) (mc := 3) (ms := 33) (as := [.int 1, .int 3]) (rest := [.ref 84]) dX7_init_27 (mt_X7_ratioLog Ha4 1 3 (by omega) (by decide) (by decide) (by decide) (by decide)) rfl kl_X7_18 ks_X7_ratioLog ki_X7 kc_X7_ratioLog kd_X7_ratioLog rfl (by decide) (by decide) (Nat.le_of_ble_eq_true rfl) (fun v Ha5 hv _ _ => ?_) (fun E hp' zx _ _ => zx.elim)
  obtain ⟨rfl, he5⟩ := hv
  have zk5 : ∀ j, j < 87 → Ha5.2 j = Ha4.2 j := fun j hj => by rw [← he5]; exact up_o (show j ≠ Ha4.1 + 2 by omega) (up_o (show j ≠ Ha4.1 + 1 by omega) (up_o (show j ≠ Ha4.1 by omega) rfl))
  have zn5 : Ha5.2 89 = c_row TWO := by rw [show 89 = Ha4.1 + 2 by omega, ← he5]; exact up_s
  have zs5 : Ha5.1 = 90 := by rw [← he5]; show Ha4.1 + 1 + 1 + 1 = _; omega
  have zf5_85 : Ha5.2 85 = .inl (4, 321, .inr (.inr (.inr (.inr (fun _ => none))))) := (zk5 85 (by decide)).trans zf4_85
  have zf5_86 : Ha5.2 86 = .inl (4, 164, .inr (.inr (.inr (.inr (fun _ => none))))) := (zk5 86 (by decide)).trans zf4_86
  have zo5 : Ha5.2 84 = .inr (4, [.ref 85, .ref 86, .null, .null, .null, .null, .null, .int 0, .int 0, .int 0, .int 0]) := (zk5 84 (by decide)).trans zo4
  have zc5 : ∀ j, j < 84 → Ha5.2 j = hp.2 j := fun j hj => (zk5 j (by omega)).trans (zc4 j hj)
  rw [show Ha4.1 + 2 = 89 by omega]
  refine qq_putF (C := RX7) (T := TX7) (N := 11) (ty := .array .int) dX7_init_30 zo5 (by decide) rfl 2 (by decide) (Nat.le_of_ble_eq_true rfl) ku_X7 kl_X7_22 tyX7 tyX7_ok nmX7 rfl rfl rfl (by decide +kernel) (fun _ => rfl) (fun _ => rfl) ?_
  obtain ⟨Ha6, he6⟩ : ∃ h : qq_H, (Ha5.1, va_up Ha5.2 84 (.inr (4, ([.ref 85, .ref 86, .null, .null, .null, .null, .null, .int 0, .int 0, .int 0, .int 0] : List Value).set 2 (.ref 89)))) = h := ⟨_, rfl⟩
  refine qq_hp (hp2 := Ha6) he6 ?_
  have zk6 : ∀ j, j ≠ 84 → Ha6.2 j = Ha5.2 j := fun j hj => by rw [← he6]; exact up_o hj rfl
  have zo6 : Ha6.2 84 = .inr (4, [.ref 85, .ref 86, .ref 89, .null, .null, .null, .null, .int 0, .int 0, .int 0, .int 0]) := by rw [← he6]; exact up_p
  have zs6 : Ha6.1 = 90 := by rw [← he6]; exact zs5
  have zc6 : ∀ j, j < 84 → Ha6.2 j = hp.2 j := fun j hj => (zk6 j (by omega)).trans (zc5 j hj)
  have zf6_85 : Ha6.2 85 = .inl (4, 321, .inr (.inr (.inr (.inr (fun _ => none))))) := (zk6 85 (by decide)).trans zf5_85
  have zf6_86 : Ha6.2 86 = .inl (4, 164, .inr (.inr (.inr (.inr (fun _ => none))))) := (zk6 86 (by decide)).trans zf5_86
  have zf6_89 : Ha6.2 89 = c_row TWO := (zk6 89 (by decide)).trans zn5
  refine qq_aload_n dX7_init_33 rfl 0 rfl ?_
  refine qq_bipush (v := 22) dX7_init_34 (by decide) ?_
  refine qq_newI (bc := 328) (bs := 3660) (N' := 22) (ms := 22) dX7_init_36 (by decide) rfl (Nat.le_of_ble_eq_true rfl) (Nat.le_refl _) ?_ ka_int
  obtain ⟨Ha7, he7⟩ : ∃ h : qq_H, qq_nw Ha6 (.inl (0, 22, .inl (fun _ => 0))) = h := ⟨_, rfl⟩
  refine qq_hp (hp2 := Ha7) he7 ?_
  have zk7 : ∀ j, j < 90 → Ha7.2 j = Ha6.2 j := fun j hj => by rw [← he7]; exact up_o (show j ≠ Ha6.1 by omega) rfl
  have zn7 : Ha7.2 90 = .inl (0, 22, .inl (fun _ => 0)) := by rw [← he7, ← zs6]; exact up_s
  have zs7 : Ha7.1 = 91 := by rw [← he7]; show Ha6.1 + 1 = _; omega
  have zf7_85 : Ha7.2 85 = .inl (4, 321, .inr (.inr (.inr (.inr (fun _ => none))))) := (zk7 85 (by decide)).trans zf6_85
  have zf7_86 : Ha7.2 86 = .inl (4, 164, .inr (.inr (.inr (.inr (fun _ => none))))) := (zk7 86 (by decide)).trans zf6_86
  have zf7_89 : Ha7.2 89 = c_row TWO := (zk7 89 (by decide)).trans zf6_89
  have zo7 : Ha7.2 84 = .inr (4, [.ref 85, .ref 86, .ref 89, .null, .null, .null, .null, .int 0, .int 0, .int 0, .int 0]) := (zk7 84 (by decide)).trans zo6
  have zc7 : ∀ j, j < 84 → Ha7.2 j = hp.2 j := fun j hj => (zk7 j (by omega)).trans (zc6 j hj)
  rw [show Ha6.1 = 90 by omega]
  refine qq_putF (C := RX7) (T := TX7) (N := 11) (ty := .array .int) dX7_init_38 zo7 (by decide) rfl 3 (by decide) (Nat.le_of_ble_eq_true rfl) ku_X7 kl_X7_25 tyX7 tyX7_ok nmX7 rfl rfl rfl (by decide +kernel) (fun _ => rfl) (fun _ => rfl) ?_
  obtain ⟨Ha8, he8⟩ : ∃ h : qq_H, (Ha7.1, va_up Ha7.2 84 (.inr (4, ([.ref 85, .ref 86, .ref 89, .null, .null, .null, .null, .int 0, .int 0, .int 0, .int 0] : List Value).set 3 (.ref 90)))) = h := ⟨_, rfl⟩
  refine qq_hp (hp2 := Ha8) he8 ?_
  have zk8 : ∀ j, j ≠ 84 → Ha8.2 j = Ha7.2 j := fun j hj => by rw [← he8]; exact up_o hj rfl
  have zo8 : Ha8.2 84 = .inr (4, [.ref 85, .ref 86, .ref 89, .ref 90, .null, .null, .null, .int 0, .int 0, .int 0, .int 0]) := by rw [← he8]; exact up_p
  have zs8 : Ha8.1 = 91 := by rw [← he8]; exact zs7
  have zc8 : ∀ j, j < 84 → Ha8.2 j = hp.2 j := fun j hj => (zk8 j (by omega)).trans (zc7 j hj)
  have zf8_85 : Ha8.2 85 = .inl (4, 321, .inr (.inr (.inr (.inr (fun _ => none))))) := (zk8 85 (by decide)).trans zf7_85
  have zf8_86 : Ha8.2 86 = .inl (4, 164, .inr (.inr (.inr (.inr (fun _ => none))))) := (zk8 86 (by decide)).trans zf7_86
  have zf8_89 : Ha8.2 89 = c_row TWO := (zk8 89 (by decide)).trans zf7_89
  have zf8_90 : Ha8.2 90 = .inl (0, 22, .inl (fun _ => 0)) := (zk8 90 (by decide)).trans zn7
  refine qq_aload_n dX7_init_41 rfl 0 rfl ?_
  refine qq_bipush (v := 8) dX7_init_42 (by decide) ?_
  refine qq_newI (bc := 327) (bs := 3652) (N' := 8) (ms := 8) dX7_init_44 (by decide) rfl (Nat.le_of_ble_eq_true rfl) (Nat.le_refl _) ?_ ka_int
  obtain ⟨Ha9, he9⟩ : ∃ h : qq_H, qq_nw Ha8 (.inl (0, 8, .inl (fun _ => 0))) = h := ⟨_, rfl⟩
  refine qq_hp (hp2 := Ha9) he9 ?_
  have zk9 : ∀ j, j < 91 → Ha9.2 j = Ha8.2 j := fun j hj => by rw [← he9]; exact up_o (show j ≠ Ha8.1 by omega) rfl
  have zn9 : Ha9.2 91 = .inl (0, 8, .inl (fun _ => 0)) := by rw [← he9, ← zs8]; exact up_s
  have zs9 : Ha9.1 = 92 := by rw [← he9]; show Ha8.1 + 1 = _; omega
  have zf9_85 : Ha9.2 85 = .inl (4, 321, .inr (.inr (.inr (.inr (fun _ => none))))) := (zk9 85 (by decide)).trans zf8_85
  have zf9_86 : Ha9.2 86 = .inl (4, 164, .inr (.inr (.inr (.inr (fun _ => none))))) := (zk9 86 (by decide)).trans zf8_86
  have zf9_89 : Ha9.2 89 = c_row TWO := (zk9 89 (by decide)).trans zf8_89
  have zf9_90 : Ha9.2 90 = .inl (0, 22, .inl (fun _ => 0)) := (zk9 90 (by decide)).trans zf8_90
  have zo9 : Ha9.2 84 = .inr (4, [.ref 85, .ref 86, .ref 89, .ref 90, .null, .null, .null, .int 0, .int 0, .int 0, .int 0]) := (zk9 84 (by decide)).trans zo8
  have zc9 : ∀ j, j < 84 → Ha9.2 j = hp.2 j := fun j hj => (zk9 j (by omega)).trans (zc8 j hj)
  rw [show Ha8.1 = 91 by omega]
  refine qq_put (C := RX7) (T := TX7) (N := 11) (ty := .array .int) dX7_init_46 zo9 (by decide) rfl 4 (by decide) (Nat.le_of_ble_eq_true rfl) ku_X7 kl_X7_28 tyX7 tyX7_ok nmX7 rfl (by decide +kernel) (fun _ => rfl) (fun _ => rfl) ?_
  obtain ⟨Ha10, he10⟩ : ∃ h : qq_H, (Ha9.1, va_up Ha9.2 84 (.inr (4, ([.ref 85, .ref 86, .ref 89, .ref 90, .null, .null, .null, .int 0, .int 0, .int 0, .int 0] : List Value).set 4 (.ref 91)))) = h := ⟨_, rfl⟩
  refine qq_hp (hp2 := Ha10) he10 ?_
  have zk10 : ∀ j, j ≠ 84 → Ha10.2 j = Ha9.2 j := fun j hj => by rw [← he10]; exact up_o hj rfl
  have zo10 : Ha10.2 84 = .inr (4, [.ref 85, .ref 86, .ref 89, .ref 90, .ref 91, .null, .null, .int 0, .int 0, .int 0, .int 0]) := by rw [← he10]; exact up_p
  have zs10 : Ha10.1 = 92 := by rw [← he10]; exact zs9
  have zc10 : ∀ j, j < 84 → Ha10.2 j = hp.2 j := fun j hj => (zk10 j (by omega)).trans (zc9 j hj)
  have zf10_85 : Ha10.2 85 = .inl (4, 321, .inr (.inr (.inr (.inr (fun _ => none))))) := (zk10 85 (by decide)).trans zf9_85
  have zf10_86 : Ha10.2 86 = .inl (4, 164, .inr (.inr (.inr (.inr (fun _ => none))))) := (zk10 86 (by decide)).trans zf9_86
  have zf10_89 : Ha10.2 89 = c_row TWO := (zk10 89 (by decide)).trans zf9_89
  have zf10_90 : Ha10.2 90 = .inl (0, 22, .inl (fun _ => 0)) := (zk10 90 (by decide)).trans zf9_90
  have zf10_91 : Ha10.2 91 = .inl (0, 8, .inl (fun _ => 0)) := (zk10 91 (by decide)).trans zn9
  refine qq_aload_n dX7_init_49 rfl 0 rfl ?_
  refine qq_bipush (v := 8) dX7_init_50 (by decide) ?_
  refine qq_newI (bc := 326) (bs := 3644) (N' := 8) (ms := 8) dX7_init_52 (by decide) rfl (Nat.le_of_ble_eq_true rfl) (Nat.le_refl _) ?_ ka_int
  obtain ⟨Ha11, he11⟩ : ∃ h : qq_H, qq_nw Ha10 (.inl (0, 8, .inl (fun _ => 0))) = h := ⟨_, rfl⟩
  refine qq_hp (hp2 := Ha11) he11 ?_
  have zk11 : ∀ j, j < 92 → Ha11.2 j = Ha10.2 j := fun j hj => by rw [← he11]; exact up_o (show j ≠ Ha10.1 by omega) rfl
  have zn11 : Ha11.2 92 = .inl (0, 8, .inl (fun _ => 0)) := by rw [← he11, ← zs10]; exact up_s
  have zs11 : Ha11.1 = 93 := by rw [← he11]; show Ha10.1 + 1 = _; omega
  have zf11_85 : Ha11.2 85 = .inl (4, 321, .inr (.inr (.inr (.inr (fun _ => none))))) := (zk11 85 (by decide)).trans zf10_85
  have zf11_86 : Ha11.2 86 = .inl (4, 164, .inr (.inr (.inr (.inr (fun _ => none))))) := (zk11 86 (by decide)).trans zf10_86
  have zf11_89 : Ha11.2 89 = c_row TWO := (zk11 89 (by decide)).trans zf10_89
  have zf11_90 : Ha11.2 90 = .inl (0, 22, .inl (fun _ => 0)) := (zk11 90 (by decide)).trans zf10_90
  have zf11_91 : Ha11.2 91 = .inl (0, 8, .inl (fun _ => 0)) := (zk11 91 (by decide)).trans zf10_91
  have zo11 : Ha11.2 84 = .inr (4, [.ref 85, .ref 86, .ref 89, .ref 90, .ref 91, .null, .null, .int 0, .int 0, .int 0, .int 0]) := (zk11 84 (by decide)).trans zo10
  have zc11 : ∀ j, j < 84 → Ha11.2 j = hp.2 j := fun j hj => (zk11 j (by omega)).trans (zc10 j hj)
  rw [show Ha10.1 = 92 by omega]
  refine qq_put (C := RX7) (T := TX7) (N := 11) (ty := .array .int) dX7_init_54 zo11 (by decide) rfl 5 (by decide) (Nat.le_of_ble_eq_true rfl) ku_X7 kl_X7_31 tyX7 tyX7_ok nmX7 rfl (by decide +kernel) (fun _ => rfl) (fun _ => rfl) ?_
  obtain ⟨Ha12, he12⟩ : ∃ h : qq_H, (Ha11.1, va_up Ha11.2 84 (.inr (4, ([.ref 85, .ref 86, .ref 89, .ref 90, .ref 91, .null, .null, .int 0, .int 0, .int 0, .int 0] : List Value).set 5 (.ref 92)))) = h := ⟨_, rfl⟩
  refine qq_hp (hp2 := Ha12) he12 ?_
  have zk12 : ∀ j, j ≠ 84 → Ha12.2 j = Ha11.2 j := fun j hj => by rw [← he12]; exact up_o hj rfl
  have zo12 : Ha12.2 84 = .inr (4, [.ref 85, .ref 86, .ref 89, .ref 90, .ref 91, .ref 92, .null, .int 0, .int 0, .int 0, .int 0]) := by rw [← he12]; exact up_p
  have zs12 : Ha12.1 = 93 := by rw [← he12]; exact zs11
  have zc12 : ∀ j, j < 84 → Ha12.2 j = hp.2 j := fun j hj => (zk12 j (by omega)).trans (zc11 j hj)
  have zf12_85 : Ha12.2 85 = .inl (4, 321, .inr (.inr (.inr (.inr (fun _ => none))))) := (zk12 85 (by decide)).trans zf11_85
  have zf12_86 : Ha12.2 86 = .inl (4, 164, .inr (.inr (.inr (.inr (fun _ => none))))) := (zk12 86 (by decide)).trans zf11_86
  have zf12_89 : Ha12.2 89 = c_row TWO := (zk12 89 (by decide)).trans zf11_89
  have zf12_90 : Ha12.2 90 = .inl (0, 22, .inl (fun _ => 0)) := (zk12 90 (by decide)).trans zf11_90
  have zf12_91 : Ha12.2 91 = .inl (0, 8, .inl (fun _ => 0)) := (zk12 91 (by decide)).trans zf11_91
  have zf12_92 : Ha12.2 92 = .inl (0, 8, .inl (fun _ => 0)) := (zk12 92 (by decide)).trans zn11
  refine qq_aload_n dX7_init_57 rfl 0 rfl ?_
  refine qq_bipush (v := 8) dX7_init_58 (by decide) ?_
  refine qq_newZ (bc := 325) (bs := 3636) (N' := 8) (ms := 8) dX7_init_60 (by decide) rfl (Nat.le_of_ble_eq_true rfl) (Nat.le_refl _) ?_ ka_boolean
  obtain ⟨Ha13, he13⟩ : ∃ h : qq_H, qq_nw Ha12 (.inl (2, 8, .inl (fun _ => 0))) = h := ⟨_, rfl⟩
  refine qq_hp (hp2 := Ha13) he13 ?_
  have zk13 : ∀ j, j < 93 → Ha13.2 j = Ha12.2 j := fun j hj => by rw [← he13]; exact up_o (show j ≠ Ha12.1 by omega) rfl
  have zn13 : Ha13.2 93 = .inl (2, 8, .inl (fun _ => 0)) := by rw [← he13, ← zs12]; exact up_s
  have zs13 : Ha13.1 = 94 := by rw [← he13]; show Ha12.1 + 1 = _; omega
  have zf13_85 : Ha13.2 85 = .inl (4, 321, .inr (.inr (.inr (.inr (fun _ => none))))) := (zk13 85 (by decide)).trans zf12_85
  have zf13_86 : Ha13.2 86 = .inl (4, 164, .inr (.inr (.inr (.inr (fun _ => none))))) := (zk13 86 (by decide)).trans zf12_86
  have zf13_89 : Ha13.2 89 = c_row TWO := (zk13 89 (by decide)).trans zf12_89
  have zf13_90 : Ha13.2 90 = .inl (0, 22, .inl (fun _ => 0)) := (zk13 90 (by decide)).trans zf12_90
  have zf13_91 : Ha13.2 91 = .inl (0, 8, .inl (fun _ => 0)) := (zk13 91 (by decide)).trans zf12_91
  have zf13_92 : Ha13.2 92 = .inl (0, 8, .inl (fun _ => 0)) := (zk13 92 (by decide)).trans zf12_92
  have zo13 : Ha13.2 84 = .inr (4, [.ref 85, .ref 86, .ref 89, .ref 90, .ref 91, .ref 92, .null, .int 0, .int 0, .int 0, .int 0]) := (zk13 84 (by decide)).trans zo12
  have zc13 : ∀ j, j < 84 → Ha13.2 j = hp.2 j := fun j hj => (zk13 j (by omega)).trans (zc12 j hj)
  rw [show Ha12.1 = 93 by omega]
  refine qq_put (C := RX7) (T := TX7) (N := 11) (ty := .array .boolean) dX7_init_62 zo13 (by decide) rfl 6 (by decide) (Nat.le_of_ble_eq_true rfl) ku_X7 kl_X7_34 tyX7 tyX7_ok nmX7 rfl (by decide +kernel) (fun _ => rfl) (fun _ => rfl) ?_
  obtain ⟨Ha14, he14⟩ : ∃ h : qq_H, (Ha13.1, va_up Ha13.2 84 (.inr (4, ([.ref 85, .ref 86, .ref 89, .ref 90, .ref 91, .ref 92, .null, .int 0, .int 0, .int 0, .int 0] : List Value).set 6 (.ref 93)))) = h := ⟨_, rfl⟩
  refine qq_hp (hp2 := Ha14) he14 ?_
  have zk14 : ∀ j, j ≠ 84 → Ha14.2 j = Ha13.2 j := fun j hj => by rw [← he14]; exact up_o hj rfl
  have zo14 : Ha14.2 84 = .inr (4, [.ref 85, .ref 86, .ref 89, .ref 90, .ref 91, .ref 92, .ref 93, .int 0, .int 0, .int 0, .int 0]) := by rw [← he14]; exact up_p
  have zs14 : Ha14.1 = 94 := by rw [← he14]; exact zs13
  have zc14 : ∀ j, j < 84 → Ha14.2 j = hp.2 j := fun j hj => (zk14 j (by omega)).trans (zc13 j hj)
  have zf14_85 : Ha14.2 85 = .inl (4, 321, .inr (.inr (.inr (.inr (fun _ => none))))) := (zk14 85 (by decide)).trans zf13_85
  have zf14_86 : Ha14.2 86 = .inl (4, 164, .inr (.inr (.inr (.inr (fun _ => none))))) := (zk14 86 (by decide)).trans zf13_86
  have zf14_89 : Ha14.2 89 = c_row TWO := (zk14 89 (by decide)).trans zf13_89
  have zf14_90 : Ha14.2 90 = .inl (0, 22, .inl (fun _ => 0)) := (zk14 90 (by decide)).trans zf13_90
  have zf14_91 : Ha14.2 91 = .inl (0, 8, .inl (fun _ => 0)) := (zk14 91 (by decide)).trans zf13_91
  have zf14_92 : Ha14.2 92 = .inl (0, 8, .inl (fun _ => 0)) := (zk14 92 (by decide)).trans zf13_92
  have zf14_93 : Ha14.2 93 = .inl (2, 8, .inl (fun _ => 0)) := (zk14 93 (by decide)).trans zn13
  refine qq_aload_n dX7_init_65 rfl 0 rfl ?_
  refine qq_get (C := RX7) (T := TX7) (N := 11) dX7_init_66 zo14 rfl 0 (by decide) rfl ku_X7 kl_X7_11 ?_
  refine qq_sipush (v := 160) dX7_init_69 (by decide) ?_
  refine qq_iconst (v := 4) dX7_init_72 (by decide) ?_
  refine qq_callS (bc := 324) (bs := 3625) (mc := 1) (ms := 11) (as := [.int 4]) (rest := [.int 160, .ref 85]) dX7_init_73 (mt_X7_quarterOf Ha14 4 (by omega)) rfl kl_X7_38 ks_X7_quarterOf ki_X7 kc_X7_quarterOf kd_X7_quarterOf rfl (by decide) (by decide) (Nat.le_of_ble_eq_true rfl) (fun v Ha15 hv _ _ => ?_) (fun E hp' zx _ _ => zx.elim)
  obtain ⟨rfl, he15⟩ := hv
  have zk15 : ∀ j, j < 94 → Ha15.2 j = Ha14.2 j := fun j hj => by rw [← he15]; exact up_o (show j ≠ Ha14.1 by omega) rfl
  have zn15 : Ha15.2 94 = .inl (0, 11, .inl (r_X7_quarterOf 4)) := by rw [show 94 = Ha14.1 by omega, ← he15]; exact up_s
  have zs15 : Ha15.1 = 95 := by rw [← he15]; show Ha14.1 + 1 = _; omega
  have zf15_85 : Ha15.2 85 = .inl (4, 321, .inr (.inr (.inr (.inr (fun _ => none))))) := (zk15 85 (by decide)).trans zf14_85
  have zf15_86 : Ha15.2 86 = .inl (4, 164, .inr (.inr (.inr (.inr (fun _ => none))))) := (zk15 86 (by decide)).trans zf14_86
  have zf15_89 : Ha15.2 89 = c_row TWO := (zk15 89 (by decide)).trans zf14_89
  have zf15_90 : Ha15.2 90 = .inl (0, 22, .inl (fun _ => 0)) := (zk15 90 (by decide)).trans zf14_90
  have zf15_91 : Ha15.2 91 = .inl (0, 8, .inl (fun _ => 0)) := (zk15 91 (by decide)).trans zf14_91
  have zf15_92 : Ha15.2 92 = .inl (0, 8, .inl (fun _ => 0)) := (zk15 92 (by decide)).trans zf14_92
  have zf15_93 : Ha15.2 93 = .inl (2, 8, .inl (fun _ => 0)) := (zk15 93 (by decide)).trans zf14_93
  have zo15 : Ha15.2 84 = .inr (4, [.ref 85, .ref 86, .ref 89, .ref 90, .ref 91, .ref 92, .ref 93, .int 0, .int 0, .int 0, .int 0]) := (zk15 84 (by decide)).trans zo14
  have zc15 : ∀ j, j < 84 → Ha15.2 j = hp.2 j := fun j hj => (zk15 j (by omega)).trans (zc14 j hj)
  rw [show Ha14.1 = 94 by omega]
  show qq_Go _ Ha15 324 3625 76 [(0, .ref 84)] [.ref 94, .int 160, .ref 85] _ _
  refine qq_aastA (nv := 0) dX7_init_76 zf15_85 (by decide) zn15 (by decide) (vp_d (by decide)) ?_
  obtain ⟨Ha16, he16⟩ : ∃ h : qq_H, (Ha15.1, va_up Ha15.2 85 (.inl (4, 321, .inr (.inr (.inr (.inr (va_up (fun _ => none) (160 : Int32).toNatClampNeg (some 94)))))))) = h := ⟨_, rfl⟩
  refine qq_hp (hp2 := Ha16) he16 ?_
  have zk16 : ∀ j, j ≠ 85 → Ha16.2 j = Ha15.2 j := fun j hj => by rw [← he16]; exact up_o hj rfl
  have zf16_86 : Ha16.2 86 = .inl (4, 164, .inr (.inr (.inr (.inr (fun _ => none))))) := (zk16 86 (by decide)).trans zf15_86
  have zf16_89 : Ha16.2 89 = c_row TWO := (zk16 89 (by decide)).trans zf15_89
  have zf16_90 : Ha16.2 90 = .inl (0, 22, .inl (fun _ => 0)) := (zk16 90 (by decide)).trans zf15_90
  have zf16_91 : Ha16.2 91 = .inl (0, 8, .inl (fun _ => 0)) := (zk16 91 (by decide)).trans zf15_91
  have zf16_92 : Ha16.2 92 = .inl (0, 8, .inl (fun _ => 0)) := (zk16 92 (by decide)).trans zf15_92
  have zf16_93 : Ha16.2 93 = .inl (2, 8, .inl (fun _ => 0)) := (zk16 93 (by decide)).trans zf15_93
  have zf16_94 : Ha16.2 94 = .inl (0, 11, .inl (r_X7_quarterOf 4)) := (zk16 94 (by decide)).trans zn15
  have zo16 : Ha16.2 84 = .inr (4, [.ref 85, .ref 86, .ref 89, .ref 90, .ref 91, .ref 92, .ref 93, .int 0, .int 0, .int 0, .int 0]) := (zk16 84 (by decide)).trans zo15
  have zc16 : ∀ j, j < 84 → Ha16.2 j = hp.2 j := fun j hj => (zk16 j (by omega)).trans (zc15 j hj)
  have zs16 : Ha16.1 = 95 := by rw [← he16]; exact zs15
  have zf16_85 : Ha16.2 85 = .inl (4, 321, .inr (.inr (.inr (.inr (va_up (fun _ => none) (160 : Int32).toNatClampNeg (some 94)))))) := by rw [← he16]; exact up_p
  refine qq_iconst (v := 0) dX7_init_77 (by decide) ?_
  refine qq_callS (bc := 322) (bs := 3603) (mc := 2) (ms := 22) (as := [.int 0]) (rest := []) dX7_init_78 (mt_X7_root Ha16 0 (by omega)) rfl kl_X7_42 ks_X7_root ki_X7 kc_X7_root kd_X7_root rfl (by decide) (by decide) (Nat.le_of_ble_eq_true rfl) (fun v Ha17 hv _ _ => ?_) (fun E hp' zx _ _ => zx.elim)
  obtain ⟨rfl, he17⟩ := hv
  have zk17 : ∀ j, j < 95 → Ha17.2 j = Ha16.2 j := fun j hj => by rw [← he17]; exact up_o (show j ≠ Ha16.1 + 1 by omega) (up_o (show j ≠ Ha16.1 by omega) rfl)
  have zn17 : Ha17.2 95 = c_row (r_X7_root 0).1 := by rw [show 95 = Ha16.1 by omega, ← he17]; exact up_o (show Ha16.1 ≠ Ha16.1 + 1 by omega) up_s
  have zs17 : Ha17.1 = 97 := by rw [← he17]; show Ha16.1 + 1 + 1 = _; omega
  have zf17_86 : Ha17.2 86 = .inl (4, 164, .inr (.inr (.inr (.inr (fun _ => none))))) := (zk17 86 (by decide)).trans zf16_86
  have zf17_89 : Ha17.2 89 = c_row TWO := (zk17 89 (by decide)).trans zf16_89
  have zf17_90 : Ha17.2 90 = .inl (0, 22, .inl (fun _ => 0)) := (zk17 90 (by decide)).trans zf16_90
  have zf17_91 : Ha17.2 91 = .inl (0, 8, .inl (fun _ => 0)) := (zk17 91 (by decide)).trans zf16_91
  have zf17_92 : Ha17.2 92 = .inl (0, 8, .inl (fun _ => 0)) := (zk17 92 (by decide)).trans zf16_92
  have zf17_93 : Ha17.2 93 = .inl (2, 8, .inl (fun _ => 0)) := (zk17 93 (by decide)).trans zf16_93
  have zf17_94 : Ha17.2 94 = .inl (0, 11, .inl (r_X7_quarterOf 4)) := (zk17 94 (by decide)).trans zf16_94
  have zf17_85 : Ha17.2 85 = .inl (4, 321, .inr (.inr (.inr (.inr (va_up (fun _ => none) (160 : Int32).toNatClampNeg (some 94)))))) := (zk17 85 (by decide)).trans zf16_85
  have zo17 : Ha17.2 84 = .inr (4, [.ref 85, .ref 86, .ref 89, .ref 90, .ref 91, .ref 92, .ref 93, .int 0, .int 0, .int 0, .int 0]) := (zk17 84 (by decide)).trans zo16
  have zc17 : ∀ j, j < 84 → Ha17.2 j = hp.2 j := fun j hj => (zk17 j (by omega)).trans (zc16 j hj)
  rw [show Ha16.1 = 95 by omega]
  show qq_Go _ Ha17 322 3603 81 [(0, .ref 84)] [.ref 95] _ _
  refine qq_astore_n (loc' := [(0, .ref 84), (1, .ref 95)]) dX7_init_81 rfl [1, 0] (Nat.le_of_ble_eq_true rfl) rfl ?_
  refine qq_iconst (v := 1) dX7_init_82 (by decide) ?_
  refine qq_callS (bc := 320) (bs := 3581) (mc := 2) (ms := 22) (as := [.int 1]) (rest := []) dX7_init_83 (mt_X7_root Ha17 1 (by omega)) rfl kl_X7_42 ks_X7_root ki_X7 kc_X7_root kd_X7_root rfl (by decide) (by decide) (Nat.le_of_ble_eq_true rfl) (fun v Ha18 hv _ _ => ?_) (fun E hp' zx _ _ => zx.elim)
  obtain ⟨rfl, he18⟩ := hv
  have zk18 : ∀ j, j < 97 → Ha18.2 j = Ha17.2 j := fun j hj => by rw [← he18]; exact up_o (show j ≠ Ha17.1 + 1 by omega) (up_o (show j ≠ Ha17.1 by omega) rfl)
  have zn18 : Ha18.2 97 = c_row (r_X7_root 1).1 := by rw [show 97 = Ha17.1 by omega, ← he18]; exact up_o (show Ha17.1 ≠ Ha17.1 + 1 by omega) up_s
  have zs18 : Ha18.1 = 99 := by rw [← he18]; show Ha17.1 + 1 + 1 = _; omega
  have zf18_86 : Ha18.2 86 = .inl (4, 164, .inr (.inr (.inr (.inr (fun _ => none))))) := (zk18 86 (by decide)).trans zf17_86
  have zf18_89 : Ha18.2 89 = c_row TWO := (zk18 89 (by decide)).trans zf17_89
  have zf18_90 : Ha18.2 90 = .inl (0, 22, .inl (fun _ => 0)) := (zk18 90 (by decide)).trans zf17_90
  have zf18_91 : Ha18.2 91 = .inl (0, 8, .inl (fun _ => 0)) := (zk18 91 (by decide)).trans zf17_91
  have zf18_92 : Ha18.2 92 = .inl (0, 8, .inl (fun _ => 0)) := (zk18 92 (by decide)).trans zf17_92
  have zf18_93 : Ha18.2 93 = .inl (2, 8, .inl (fun _ => 0)) := (zk18 93 (by decide)).trans zf17_93
  have zf18_94 : Ha18.2 94 = .inl (0, 11, .inl (r_X7_quarterOf 4)) := (zk18 94 (by decide)).trans zf17_94
  have zf18_85 : Ha18.2 85 = .inl (4, 321, .inr (.inr (.inr (.inr (va_up (fun _ => none) (160 : Int32).toNatClampNeg (some 94)))))) := (zk18 85 (by decide)).trans zf17_85
  have zf18_95 : Ha18.2 95 = c_row (r_X7_root 0).1 := (zk18 95 (by decide)).trans zn17
  have zo18 : Ha18.2 84 = .inr (4, [.ref 85, .ref 86, .ref 89, .ref 90, .ref 91, .ref 92, .ref 93, .int 0, .int 0, .int 0, .int 0]) := (zk18 84 (by decide)).trans zo17
  have zc18 : ∀ j, j < 84 → Ha18.2 j = hp.2 j := fun j hj => (zk18 j (by omega)).trans (zc17 j hj)
  rw [show Ha17.1 = 97 by omega]
  show qq_Go _ Ha18 320 3581 86 [(0, .ref 84), (1, .ref 95)] [.ref 97] _ _
  refine qq_astore_n (loc' := [(0, .ref 84), (1, .ref 95), (2, .ref 97)]) dX7_init_86 rfl [1, 2, 0] (Nat.le_of_ble_eq_true rfl) rfl ?_
  refine qq_iconst (v := 1) dX7_init_87 (by decide) ?_
  refine qq_istore_n (loc' := [(0, .ref 84), (1, .ref 95), (2, .ref 97), (3, .int 1)]) dX7_init_88 rfl [1, 2, 3, 0] (Nat.le_of_ble_eq_true rfl) rfl ?_
  refine qq_less (bc' := 2 * 160) (bs' := 22 * 160) (by omega) (by omega) ?_
  refine lq_X7_init_89 hp (fun H h => ⟨rfl, ci_end hE h, h.1, h.2.1⟩) 160 1 1 Ha18 ⟨by rw [zs18], zc18, zo18, ?_, zf18_86, zf18_89, zf18_90, zf18_91, zf18_92, zf18_93, zf18_95, zn18, fun j j1 j2 => ?_⟩ rfl (by decide) rfl
  · refine (zf18_85).trans ?_
    have ef : va_up (fun _ => none) (160 : Int32).toNatClampNeg (some 94) = cpw 1 := by
      funext j
      have e160 : (160 : Int32).toNatClampNeg = 160 := rfl
      simp only [va_up, cpw, e160]
      by_cases c : j = 160
      · rw [if_pos c, if_pos (by omega), c]; rfl
      · rw [if_neg c, if_neg (by omega)]
    rw [ef]
  · have ej : j = 160 := by omega
    subst ej
    exact zf18_94
