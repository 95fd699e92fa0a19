/-! the true numbers' values; a row with a height -/
def vQ (q : Int32) : Nat := (q.toInt * 2 ^ 254 % (qB : Int) ^ 11).toNat
def vTr (kd q : Int32) : Nat := if kd = 2 then vP.getD (q + 160).toNatClampNeg 0 else if kd = 3 then (vP.getD (q + 160).toNatClampNeg 0 + (qB ^ 11 - 2 ^ 256)) % qB ^ 11 else if kd = 4 then if q = 0 then 0 else vL.getD (q + 3).toNatClampNeg 0 else vQ q
theorem vTr_0 (q : Int32) : vTr 0 q = vQ q := by
  unfold vTr
  rw [if_neg (by decide), if_neg (by decide), if_neg (by decide)]
theorem vTr_2 (q : Int32) : vTr 2 q = vP.getD (q + 160).toNatClampNeg 0 := by
  unfold vTr
  rw [if_pos rfl]
theorem vTr_3 (q : Int32) : vTr 3 q = (vP.getD (q + 160).toNatClampNeg 0 + (qB ^ 11 - 2 ^ 256)) % qB ^ 11 := by
  unfold vTr
  rw [if_neg (by decide), if_pos rfl]
theorem vTr_4 {q : Int32} (h : ¬ q = 0) : vTr 4 q = vL.getD (q + 3).toNatClampNeg 0 := by
  unfold vTr
  rw [if_neg (by decide), if_neg (by decide), if_pos rfl, if_neg h]
theorem LG_q {q : Int32} (h1 : -3 ≤ q.toInt) (h2 : q.toInt ≤ 160) (e : ((q + 3).toNatClampNeg : Int) = q.toInt + 3) : LG (q + 3).toNatClampNeg = LGq q := by
  have eq : Int32.ofNat (q + 3).toNatClampNeg - 3 = q := by
    apply Int32.toInt_inj.mp
    have e3 : (3 : Int32).toInt = 3 := rfl
    rw [Int32.toInt_sub, tx_ti (n := (q + 3).toNatClampNeg) (by omega), e3, Int.bmod_eq_of_le (by omega) (by omega)]
    omega
  unfold LG
  rw [eq]
theorem vQ_e (q : Int32) : tv (r_X7_quarterOf q) 0 11 = vQ q := by
  have h := qv_quart q
  unfold vQ
  rw [← h]
  rfl
theorem ix_p {q : Int32} {a : Int32} {n N : Nat} (ha : a.toInt = n) (hn : n ≤ 1000) (h1 : -(n : Int) ≤ q.toInt) (h2 : q.toInt + n < N) (hN : N ≤ 1000) : (q + a).toNatClampNeg < N ∧ ((q + a).toNatClampNeg : Int) = q.toInt + n := by
  have e : (q + a).toInt = q.toInt + n := by rw [Int32.toInt_add, ha, Int.bmod_eq_of_le (by omega) (by omega)]
  have e2 : (q + a).toNatClampNeg = (q + a).toInt.toNat := rfl
  omega
theorem vP_160 : vP.getD 160 0 = 2 ^ 256 := by decide +kernel
theorem true_v {kd q : Int32} (S : sM) (h : tpre kd q) : tv (r_X7_trueOf kd q S) 0 11 = vTr kd q := by
  obtain ⟨h2, h3, h4⟩ := h
  unfold r_X7_trueOf vTr
  by_cases e2 : kd = 2
  · obtain ⟨a1, a2⟩ := h2 e2
    rw [if_pos e2, if_pos e2]
    exact PW_v (ix_p (a := 160) (n := 160) rfl (by decide) (by omega) (by omega) (by decide)).1
  · rw [if_neg e2, if_neg e2]
    by_cases e3 : kd = 3
    · obtain ⟨a1, a2⟩ := h3 e3
      rw [if_pos e3, if_pos e3, qv_sum1, PW_v (ix_p (a := 160) (n := 160) rfl (by decide) (by omega) (by omega) (by decide)).1]
      have e : tv (PW (160 : Int32).toNatClampNeg) 0 11 = 2 ^ 256 := (PW_v (j := 160) (by decide)).trans vP_160
      rw [e]
    · rw [if_neg e3, if_neg e3]
      by_cases e4 : kd = 4
      · obtain ⟨a1, a2⟩ := h4 e4
        rw [if_pos e4, if_pos e4]
        by_cases e0 : q = 0
        · rw [if_pos e0, if_pos e0, vQ_e]
          decide +kernel
        · rw [if_neg e0, if_neg e0]
          obtain ⟨b1, b2⟩ := ix_p (q := q) (a := 3) (n := 3) (N := 164) rfl (by decide) (by omega) (by omega) (by decide)
          have hl := LG_v b1
          rw [LG_q (by omega) (by omega) b2] at hl
          rw [← hl]
          rfl
      · rw [if_neg e4, if_neg e4]
        exact vQ_e q
def hok (v : Nat) : Bool := if v < 2 ^ 351 then decide (2 ^ 30 ≤ v) else decide (2 ^ 30 ≤ qB ^ 11 - v)
theorem hok_P : (List.range 321).all (fun j => hok (vP.getD j 0)) = true := by decide +kernel
theorem hok_L : (List.range 321).all (fun j => j == 160 || hok ((vP.getD j 0 + (qB ^ 11 - 2 ^ 256)) % qB ^ 11)) = true := by decide +kernel
theorem hok_G : (List.range 164).all (fun j => j == 3 || hok (vL.getD j 0)) = true := by decide +kernel
theorem hok_Q : (List.range 321).all (fun j => j == 160 || hok ((((j : Int) - 160) * 2 ^ 254 % (qB : Int) ^ 11).toNat)) = true := by decide +kernel
theorem hok_h {f : qR} (h : hok (tv f 0 11) = true) (S : sM) : hgt (r_X7_sizeOf f S) := by
  unfold hok at h
  unfold r_X7_sizeOf
  have hs := sg_v f
  have hl := tv_lt f 11 0
  by_cases hv : tv f 0 11 < 2 ^ 351
  · rw [if_pos hv] at h
    have e10 : (10 : Int32).toNatClampNeg = 10 := rfl
    rw [e10, if_pos (hs.mpr hv)]
    exact hg_v (of_decide_eq_true h)
  · rw [if_neg hv] at h
    have e10 : (10 : Int32).toNatClampNeg = 10 := rfl
    rw [e10, if_neg (fun z => hv (hs.mp z))]
    refine hg_v ?_
    have e0 : tv (r_X7_quarterOf 0) 0 11 = 0 := (vQ_e 0).trans (by decide +kernel)
    have h0 : 0 < (2 : Nat) ^ 351 := Nat.pow_pos (by decide)
    rw [qv_sum1, e0, Nat.zero_add, Nat.mod_eq_of_lt (by omega)]
    exact of_decide_eq_true h
theorem hok_v {kd q u : Int32} (h : vq kd q u) (h1 : ¬ kd = 1) (h4 : kd ≤ 4) (hn : ¬ (kd = 0 ∧ q = 0)) : hok (vTr kd q) = true := by
  rcases h with ⟨rfl, a, b, _⟩ | ⟨rfl, _⟩ | ⟨rfl, a, b, c, _⟩ | ⟨rfl, a, b, c, _⟩ | ⟨rfl, a, b, c, _⟩ | ⟨rfl, _⟩ | ⟨rfl, _⟩
  · have hq : ¬ q = 0 := fun z => hn ⟨rfl, z⟩
    have hz : ¬ q.toInt = 0 := fun z => hq (Int32.toInt_inj.mp z)
    have hj := List.all_eq_true.mp hok_Q (q.toInt + 160).toNat (List.mem_range.mpr (by omega))
    have e : (((q.toInt + 160).toNat : Nat) : Int) - 160 = q.toInt := by omega
    rw [e, Bool.or_eq_true] at hj
    rw [vTr_0]
    unfold vQ
    rcases hj with hj | hj
    · have := beq_iff_eq.mp hj
      omega
    · exact hj
  · exact absurd rfl h1
  · obtain ⟨b1, b2⟩ := ix_p (q := q) (a := 160) (n := 160) (N := 321) rfl (by decide) (by omega) (by omega) (by decide)
    rw [vTr_2]
    exact List.all_eq_true.mp hok_P _ (List.mem_range.mpr b1)
  · obtain ⟨b1, b2⟩ := ix_p (q := q) (a := 160) (n := 160) (N := 321) rfl (by decide) (by omega) (by omega) (by decide)
    have hz : ¬ q.toInt = 0 := fun z => c (Int32.toInt_inj.mp z)
    have hj := List.all_eq_true.mp hok_L _ (List.mem_range.mpr b1)
    rw [Bool.or_eq_true] at hj
    rw [vTr_3]
    rcases hj with hj | hj
    · have := beq_iff_eq.mp hj
      omega
    · exact hj
  · obtain ⟨b1, b2⟩ := ix_p (q := q) (a := 3) (n := 3) (N := 164) rfl (by decide) (by omega) (by omega) (by decide)
    have hz : ¬ q.toInt = 0 := fun z => c (Int32.toInt_inj.mp z)
    have hj := List.all_eq_true.mp hok_G _ (List.mem_range.mpr b1)
    rw [Bool.or_eq_true] at hj
    rw [vTr_4 c]
    rcases hj with hj | hj
    · have := beq_iff_eq.mp hj
      omega
    · exact hj
  · exact absurd h4 (by decide)
  · exact absurd h4 (by decide)
/-- cells that can be have a height where they have one -/
theorem IH_of {S : sM} (h : IM S) : IH S := by
  intro c hc hu hn S0
  have hv := h _ (vp_lt hc)
  unfold r_X7_isUntold at hu
  unfold r_X7_isNought at hn
  have h1 : ¬ S.1 c.toNatClampNeg = 1 := fun z => by rw [if_pos z] at hu; exact absurd hu (by decide)
  rw [if_neg h1] at hu
  have h4 : S.1 c.toNatClampNeg ≤ 4 := by
    by_cases z : S.1 c.toNatClampNeg ≤ 4
    · exact z
    · rw [if_neg z] at hu; exact absurd hu (by decide)
  have h0 : ¬ (S.1 c.toNatClampNeg = 0 ∧ S.2.1 c.toNatClampNeg = 0) := fun z => by
    rw [if_pos z.1, if_pos z.2] at hn
    exact absurd hn (by decide)
  refine hok_h ?_ S0
  rw [true_v S0 (vq_t hv)]
  exact hok_v hv h1 h4 h0
