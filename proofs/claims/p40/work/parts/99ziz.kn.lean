def RelL (_ : sX) (_ : sM) : Prop := True
theorem rk_quarter {S S1 : sX} {T T2 : sM} {p : Prop} (_ : RelL S T) (_ : p) : RelL S1 T2 := trivial
theorem rk_zero {S S1 : sX} {T T2 : sM} {p : Prop} (_ : RelL S T) (_ : p) : RelL S1 T2 := trivial
theorem rk_endless {S S1 : sX} {T T2 : sM} {p : Prop} (_ : RelL S T) (_ : p) : RelL S1 T2 := trivial
theorem rk_row {S S1 : sX} {T T2 : sM} {p : Prop} (_ : RelL S T) (_ : p) : RelL S1 T2 := trivial
theorem rk_wipe {S S1 : sX} {T T2 : sM} (_ : RelL S T) : RelL S1 T2 := trivial
theorem rk_copy {S S1 : sX} {T T2 : sM} {p : Prop} (_ : RelL S T) (_ : p) : RelL S1 T2 := trivial
theorem rk_swap {S S1 : sX} {T T2 : sM} {p : Prop} (_ : RelL S T) (_ : p) : RelL S1 T2 := trivial
theorem rk_step {S S1 : sX} {T T2 : sM} {p : Prop} (_ : RelL S T) (_ : p) : RelL S1 T2 := trivial
theorem rk_turn {S S1 : sX} {T T2 : sM} {p : Prop} (_ : RelL S T) (_ : p) : RelL S1 T2 := trivial
theorem rk_power {S S1 : sX} {T T2 : sM} {p : Prop} (_ : RelL S T) (_ : p) : RelL S1 T2 := trivial
theorem rk_lessen {S S1 : sX} {T T2 : sM} {p : Prop} (_ : RelL S T) (_ : p) : RelL S1 T2 := trivial
theorem rk_log {S S1 : sX} {T T2 : sM} {p : Prop} (_ : RelL S T) (_ : p) : RelL S1 T2 := trivial
theorem rk_all {S S1 : sX} {T T2 : sM} {p : Prop} (_ : RelL S T) (_ : p) : RelL S1 T2 := trivial
theorem rk_greater {S S1 : sX} {T T2 : sM} {p : Prop} (_ : RelL S T) (_ : p) : RelL S1 T2 := trivial
theorem rk_lesser {S S1 : sX} {T T2 : sM} {p : Prop} (_ : RelL S T) (_ : p) : RelL S1 T2 := trivial
theorem rk_end {S S1 : sX} {T T2 : sM} {p : Prop} (_ : RelL S T) (_ : p) : RelL S1 T2 := trivial
theorem rk_sort {S S1 : sX} {T T2 : sM} (_ : RelL S T) : RelL S1 T2 := trivial
theorem rk_kind {S S1 : sX} {T T2 : sM} {p : Prop} (_ : RelL S T) (_ : p) : RelL S1 T2 := trivial
theorem rk_of {S S1 : sX} {T T2 : sM} {p : Prop} (_ : RelL S T) (_ : p) : RelL S1 T2 := trivial
theorem rk_isBelow {S S1 : sX} {T T2 : sM} {p : Prop} (_ : RelL S T) (_ : p) : RelL S1 T2 := trivial
theorem rk_isZero {S S1 : sX} {T T2 : sM} {p : Prop} (_ : RelL S T) (_ : p) : RelL S1 T2 := trivial
theorem rk_isEndless {S S1 : sX} {T T2 : sM} {p : Prop} (_ : RelL S T) (_ : p) : RelL S1 T2 := trivial
theorem rk_whole {S S1 : sX} {T T2 : sM} {p : Prop} (_ : RelL S T) (_ : p) : RelL S1 T2 := trivial
theorem rk_height {S S1 : sX} {T T2 : sM} {p : Prop} (_ : RelL S T) (_ : p) : RelL S1 T2 := trivial
theorem rk_digits {S S1 : sX} {T T2 : sM} {p : Prop} (_ : RelL S T) (_ : p) : RelL S1 T2 := trivial
theorem rk_upper {S S1 : sX} {T T2 : sM} {p : Prop} (_ : RelL S T) (_ : p) : RelL S1 T2 := trivial
theorem rk_lower {S S1 : sX} {T T2 : sM} {p : Prop} (_ : RelL S T) (_ : p) : RelL S1 T2 := trivial
theorem rk_text {S S1 : sX} {T T2 : sM} (_ : RelL S T) : RelL S1 T2 := trivial
theorem rk_order {S S1 : sX} {T T2 : sM} {p : Prop} (_ : RelL S T) (_ : p) : RelL S1 T2 := trivial
theorem rk_isAlike {S S1 : sX} {T T2 : sM} {p : Prop} (_ : RelL S T) (_ : p) : RelL S1 T2 := trivial
theorem rk_isNear {S S1 : sX} {T T2 : sM} {p : Prop} (_ : RelL S T) (_ : p) : RelL S1 T2 := trivial
theorem rk_most {S S1 : sX} {T T2 : sM} {p : Prop} (_ : RelL S T) (_ : p) : RelL S1 T2 := trivial
theorem rk_isWithin {S S1 : sX} {T T2 : sM} {p : Prop} (_ : RelL S T) (_ : p) : RelL S1 T2 := trivial
theorem rk_find {S S1 : sX} {T T2 : sM} {p : Prop} (_ : RelL S T) (_ : p) : RelL S1 T2 := trivial
theorem rk_rank {S S1 : sX} {T T2 : sM} {p : Prop} (_ : RelL S T) (_ : p) : RelL S1 T2 := trivial
theorem rk_before {S S1 : sX} {T T2 : sM} {p : Prop} (_ : RelL S T) (_ : p) : RelL S1 T2 := trivial
theorem rk_answer {S S1 : sX} {T T2 : sM} {p : Prop} (_ : RelL S T) (_ : p) : RelL S1 T2 := trivial
theorem rk_below {S S1 : sX} {T T2 : sM} {p : Prop} (_ : RelL S T) (_ : p) : RelL S1 T2 := trivial
theorem rk_rises {S S1 : sX} {T T2 : sM} {p : Prop} (_ : RelL S T) (_ : p) : RelL S1 T2 := trivial
theorem rk_between {S S1 : sX} {T T2 : sM} {p : Prop} (_ : RelL S T) (_ : p) : RelL S1 T2 := trivial
theorem rk_lies {S S1 : sX} {T T2 : sM} {p : Prop} (_ : RelL S T) (_ : p) : RelL S1 T2 := trivial
theorem rk_undone {S S1 : sX} {T T2 : sM} {p : Prop} (_ : RelL S T) (_ : p) : RelL S1 T2 := trivial
theorem rk_comesBack {S S1 : sX} {T T2 : sM} {p : Prop} (_ : RelL S T) (_ : p) : RelL S1 T2 := trivial
theorem rk_comesForth {S S1 : sX} {T T2 : sM} {p : Prop} (_ : RelL S T) (_ : p) : RelL S1 T2 := trivial
theorem rk_opposite {S S1 : sX} {T T2 : sM} {p : Prop} (_ : RelL S T) (_ : p) : RelL S1 T2 := trivial
theorem rk_house {S S1 : sX} {T T2 : sM} {p : Prop} (_ : RelL S T) (_ : p) : RelL S1 T2 := trivial
theorem rk_knock {S S1 : sX} {T T2 : sM} (_ : RelL S T) : RelL S1 T2 := trivial
theorem rk_isSound {S S1 : sX} {T T2 : sM} (_ : RelL S T) : RelL S1 T2 := trivial
theorem rk_digest {S S1 : sX} {T T2 : sM} (_ : RelL S T) : RelL S1 T2 := trivial
theorem rl_0 : RelL (r_X5_init cX0) mS0 := trivial
theorem fq2 : f_X4_firstQ 2 = -128 := by decide
theorem lq2 : f_X4_lastQ 2 = 144 := by decide
theorem fq3 : f_X4_firstQ 3 = -3 := by decide
theorem lq3 : f_X4_lastQ 3 = 160 := by decide
def btM (q : Int32) : Int32 := if cmpI (tS (snk 2 q) (snq 2 q)) (svN (vQ (-4))) ≤ 0 then 0 else if cmpI (tS (snk 2 q) (snq 2 q)) (svN (vQ q)) ≤ 0 then 0 else if 0 ≤ cmpI (tS (snk 2 q) (snq 2 q)) (tS (snk 1 q) (snq 1 q)) then 0 else 1
theorem bt_1 : ∀ j : Nat, j < 273 → f_X5_liesBetween (Int32.ofInt (-128 + j)) = btM (Int32.ofInt (-128 + j)) := by decide +kernel
def liM (q : Int32) : Int32 := if 0 ≤ cmpI (tS (snk 3 q) (snq 3 q)) (svN (vQ q)) then 0 else 1
theorem li_1 : ∀ j : Nat, j < 164 → f_X5_liesUnderQuarter (Int32.ofInt (-3 + j)) = liM (Int32.ofInt (-3 + j)) := by decide +kernel
theorem ris_v {how f t : Int32} {S : sX} {X : sM} (g : ¬ how < 0 ∧ ¬ 3 < how) (ht : ¬ f_X4_lastQ how < t) : ∀ (m fu fv : Nat) (q : Int32), ¬ q < f_X4_firstQ how → (t.toInt - q.toInt).toNat ≤ m → m < fu → m < fv → lr_X5_rises_28 how f t fu q S = lf_X7_rises_73 how f t fv q X
  | m, 0, _, _, _, _, h, _ => absurd h (Nat.not_lt_zero _)
  | m, fu + 1, 0, _, _, _, _, h => absurd h (Nat.not_lt_zero _)
  | m, fu + 1, fv + 1, q, hq, hm, h1, h2 => by
    rw [lr_X5_rises_28, lf_X7_rises_73]
    by_cases c : t ≤ q
    · rw [if_pos c, if_pos c]
    · rw [if_neg c, if_neg c]
      have e := qm_inc c
      have c' := c
      rw [Int32.le_iff_toInt_le] at c'
      have s1 : inS how q := inS_f g ⟨hq, fun z => ht (by rw [Int32.lt_iff_toInt_lt] at z ⊢; omega)⟩
      have s2 : inS how (q + 1) := inS_f g ⟨fun z => hq (by rw [Int32.lt_iff_toInt_lt] at z ⊢; omega), fun z => ht (by rw [Int32.lt_iff_toInt_lt] at z ⊢; omega)⟩
      rw [ser_cc X s1 s2]
      by_cases y : r_X7_compare (r_X7_trueIn how q X) (r_X7_trueIn how (q + 1) X) < 0
      · rw [if_pos y, if_pos y]
        match m, hm, h1, h2 with
        | 0, hm, _, _ => exact absurd hm (by omega)
        | m + 1, hm, h1, h2 => exact ris_v g ht m fu fv (q + 1) (fun z => hq (by rw [Int32.lt_iff_toInt_lt] at z ⊢; omega)) (by omega) (by omega) (by omega)
      · rw [if_neg y, if_neg y]
theorem ris_01 {how f t : Int32} {X : sM} : ∀ (fv : Nat) (q : Int32), lf_X7_rises_73 how f t fv q X = 0 ∨ lf_X7_rises_73 how f t fv q X = 1
  | 0, _ => Or.inr rfl
  | fv + 1, q => by
    rw [lf_X7_rises_73]
    by_cases c : t ≤ q
    · rw [if_pos c]; exact Or.inr rfl
    · rw [if_neg c]
      split
      · exact ris_01 fv (q + 1)
      · exact Or.inl rfl
theorem ris_b {how f t : Int32} (g : ¬ how < 0 ∧ ¬ 3 < how) (h1 : ¬ f < f_X4_firstQ how) (h2 : ¬ f_X4_lastQ how < t) : (t.toInt - f.toInt).toNat ≤ 320 := by
  rw [Int32.lt_iff_toInt_lt] at h1 h2
  have a1 : (f_X4_firstQ 0).toInt = -160 := by decide
  have b1 : (f_X4_lastQ 0).toInt = 160 := by decide
  have a2 : (f_X4_firstQ 1).toInt = -160 := by decide
  have b2 : (f_X4_lastQ 1).toInt = 160 := by decide
  have a3 : (f_X4_firstQ 2).toInt = -128 := by decide
  have b3 : (f_X4_lastQ 2).toInt = 144 := by decide
  have a4 : (f_X4_firstQ 3).toInt = -3 := by decide
  have b4 : (f_X4_lastQ 3).toInt = 160 := by decide
  rcases how_c g with rfl | rfl | rfl | rfl <;> omega
theorem ck_rises {S S1 : sX} {T : sM} {k0 : Int32} {n n0 : Int64} {p0 p1 p2 : Int32} (hI : IM T) (hR : RelL S T) (D : (k0 = 0 ∧ (¬ p0 < 0 ∧ ¬ 3 < p0) ∧ (¬ p1 < (f_X4_firstQ p0) ∧ ¬ (f_X4_lastQ p0) < p1) ∧ (¬ p2 < p1 ∧ ¬ (f_X4_lastQ p0) < p2) ∧ S1 = S ∧ n0 = if (r_X5_rises p0 p1 p2 S) = 0 then 0 else 1) ∨ (k0 = 1 ∧ (p0 < 0 ∨ 3 < p0) ∧ S1 = S ∧ n0 = n) ∨ (k0 = 1 ∧ (¬ p0 < 0 ∧ ¬ 3 < p0) ∧ (p1 < (f_X4_firstQ p0) ∨ (f_X4_lastQ p0) < p1) ∧ S1 = S ∧ n0 = n) ∨ (k0 = 1 ∧ (¬ p0 < 0 ∧ ¬ 3 < p0) ∧ (¬ p1 < (f_X4_firstQ p0) ∧ ¬ (f_X4_lastQ p0) < p1) ∧ (p2 < p1 ∨ (f_X4_lastQ p0) < p2) ∧ S1 = S ∧ n0 = n)) : r_X7_thrown (r_X7_rises p0 p1 p2 T).2 = k0 ∧ (k0 = 0 → n0 = bzj (r_X7_rises p0 p1 p2 T).1) := by
  rcases D with ⟨rfl, g0, g1, g2, rfl, rfl⟩ | ⟨rfl, f0, rfl, rfl⟩ | ⟨rfl, g0, f1, rfl, rfl⟩ | ⟨rfl, g0, g1, f2, rfl, rfl⟩
  · obtain ⟨b1, b2⟩ := sb_e g0
    have i1 : r_X7_isOf p0 p1 T = 1 := in_1 (by rw [b1, b2]; exact g1)
    have i2 : r_X7_isOf p0 p2 T = 1 := in_1 (by rw [b1, b2]; exact ⟨fun z => g1.1 (by have h := g2.1; rw [Int32.lt_iff_toInt_lt] at z h ⊢; omega), g2.2⟩)
    have hb := ris_b g0 g1.1 g2.2
    have ev := ris_v (how := p0) (f := p1) (t := p2) (S := S1) (X := th 0 T) g0 g2.2 (p2.toInt - p1.toInt).toNat ((p2.toInt - p1.toInt).toNat + 1) 322 p1 g1.1 (Nat.le_refl _) (Nat.lt_succ_self _) (by omega)
    have e : r_X7_rises p0 p1 p2 T = (lf_X7_rises_73 p0 p1 p2 322 p1 (th 0 T), th 0 T) := by
      unfold r_X7_rises
      rw [in_1 g0, it1, it1, i1, it1, it1, i2, it1, if_neg g2.1, is1, q1c]
      rcases ris_01 (how := p0) (f := p1) (t := p2) (X := th 0 T) 322 p1 with z | z
      · show (if lf_X7_rises_73 p0 p1 p2 322 p1 (th 0 T) = 1 then ((1 : Int32), th 0 T) else (0, th 0 T)) = _
        rw [z]
        rfl
      · show (if lf_X7_rises_73 p0 p1 p2 322 p1 (th 0 T) = 1 then ((1 : Int32), th 0 T) else (0, th 0 T)) = _
        rw [z]
        rfl
    have e2 : r_X5_rises p0 p1 p2 S1 = lf_X7_rises_73 p0 p1 p2 322 p1 (th 0 T) := ev
    rw [e, e2]
    exact ⟨rfl, fun _ => rfl⟩
  · have e : r_X7_rises p0 p1 p2 T = (0, th 1 T) := by
      unfold r_X7_rises
      rw [in_0 f0, it0, is0, q0c]
      try rfl
    rw [e]
    exact ⟨rfl, fun h => absurd h (by decide)⟩
  · obtain ⟨b1, b2⟩ := sb_e g0
    have i1 : r_X7_isOf p0 p1 T = 0 := in_0 (by rw [b1, b2]; exact f1)
    have e : r_X7_rises p0 p1 p2 T = (0, th 1 T) := by
      unfold r_X7_rises
      rw [in_1 g0, it1, it1, i1, it0, is0, q0c]
      try rfl
    rw [e]
    exact ⟨rfl, fun h => absurd h (by decide)⟩
  · obtain ⟨b1, b2⟩ := sb_e g0
    have i1 : r_X7_isOf p0 p1 T = 1 := in_1 (by rw [b1, b2]; exact g1)
    by_cases z : p2 < f_X4_firstQ p0 ∨ f_X4_lastQ p0 < p2
    · have i2 : r_X7_isOf p0 p2 T = 0 := in_0 (by rw [b1, b2]; exact z)
      have e : r_X7_rises p0 p1 p2 T = (0, th 1 T) := by
        unfold r_X7_rises
        rw [in_1 g0, it1, it1, i1, it1, it1, i2, it0, is0, q0c]
        try rfl
      rw [e]
      exact ⟨rfl, fun h => absurd h (by decide)⟩
    · have i2 : r_X7_isOf p0 p2 T = 1 := in_1 (by rw [b1, b2]; exact not_or.mp z)
      have l : p2 < p1 := f2.resolve_right (not_or.mp z).2
      have e : r_X7_rises p0 p1 p2 T = (0, th 1 T) := by
        unfold r_X7_rises
        rw [in_1 g0, it1, it1, i1, it1, it1, i2, it1, if_pos l, is0, q0c]
        try rfl
      rw [e]
      exact ⟨rfl, fun h => absurd h (by decide)⟩
