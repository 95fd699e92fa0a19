/-! class and model side by side: the cells -/
def Rw0 (S : sX) (T : sM) : Prop := (∀ c : Nat, c < 8 → S.1 c = enc (T.1 c) (T.2.1 c) (T.2.2.1 c)) ∧ (∀ c : Nat, c < 8 → S.2.1 c = f_X1_digitsOf (S.1 c)) ∧ S.2.2.2.2.1 = T.2.2.2.2.1 ∧ S.2.2.2.2.2 = T.2.2.2.2.2.1
def Rw (S : sX) (T : sM) : Prop := Rw0 S T ∧ S.2.2.2.1 = T.2.2.2.1
theorem updL_s (f : Nat → Int64) (k : Nat) (x : Int64) : vp_updL f k x k = x := if_pos rfl
theorem updL_n (f : Nat → Int64) {k j : Nat} (x : Int64) (h : j ≠ k) : vp_updL f k x j = f j := if_neg h
theorem rw_th {S : sX} {T : sM} {x : Int32} (h : Rw S T) : Rw S (th x T) := h
theorem rw_o {S : sX} {T T' : sM} (e : ∃ y, T' = th y T) (h : Rw S T) : Rw S T' := by
  obtain ⟨y, rfl⟩ := e
  exact h
theorem im_thy {T T' : sM} (e : ∃ y, T' = th y T) (h : IM T) : IM T' := by
  obtain ⟨y, rfl⟩ := e
  exact im_kind0 h rfl rfl rfl
theorem br_2 (c n : Int32) (S : sX) : (r_X5_bring c n S).2 = (upd S.1 c.toNatClampNeg n, vp_updL S.2.1 c.toNatClampNeg (f_X1_digitsOf n), S.2.2.1, S.2.2.2.1 + 1, S.2.2.2.2.1, S.2.2.2.2.2) := by
  unfold r_X5_bring
  split <;> rfl
theorem br_1 (c n : Int32) (S : sX) : (r_X5_bring c n S).1 = if S.1 c.toNatClampNeg = n then 0 else 1 := by
  unfold r_X5_bring
  split <;> rfl
theorem cm_2 (c kd q u : Int32) (T : sM) : (r_X7_come c kd q u T).2 = (upd T.1 c.toNatClampNeg kd, upd T.2.1 c.toNatClampNeg q, upd T.2.2.1 c.toNatClampNeg (vp_nar .boolean u), T.2.2.2.1 + 1, T.2.2.2.2.1, T.2.2.2.2.2.1, T.2.2.2.2.2.2) := by
  unfold r_X7_come
  (repeat' split) <;> rfl
theorem cm_1 (c kd q u : Int32) (T : sM) : (r_X7_come c kd q u T).1 = if T.1 c.toNatClampNeg = kd ∧ T.2.1 c.toNatClampNeg = q ∧ T.2.2.1 c.toNatClampNeg = u then 0 else 1 := by
  unfold r_X7_come
  by_cases h1 : T.1 c.toNatClampNeg = kd
  · by_cases h2 : T.2.1 c.toNatClampNeg = q
    · by_cases h3 : T.2.2.1 c.toNatClampNeg = u
      · rw [if_pos h1, if_pos h2, if_pos h3, if_pos ⟨h1, h2, h3⟩]
      · rw [if_pos h1, if_pos h2, if_neg h3, if_neg (fun z => h3 z.2.2)]
    · rw [if_pos h1, if_neg h2, if_neg (fun z => h2 z.2.1)]
  · rw [if_neg h1, if_neg (fun z => h1 z.1)]
theorem nar_u {u : Int32} (h : u = 0 ∨ u = 1) : vp_nar .boolean u = u := by
  rcases h with rfl | rfl <;> rfl
/-- cells after one was put -/
theorem rw_put {S : sX} {T : sM} {c kd q u d e : Int32} (h : Rw0 S T) (hv : vq kd q u) : Rw0 (upd S.1 c.toNatClampNeg (enc kd q u), vp_updL S.2.1 c.toNatClampNeg (f_X1_digitsOf (enc kd q u)), S.2.2.1, d, S.2.2.2.2.1, S.2.2.2.2.2) (upd T.1 c.toNatClampNeg kd, upd T.2.1 c.toNatClampNeg q, upd T.2.2.1 c.toNatClampNeg (vp_nar .boolean u), e, T.2.2.2.2.1, T.2.2.2.2.2.1, T.2.2.2.2.2.2) := by
  obtain ⟨h1, h2, h3, h4⟩ := h
  refine ⟨fun j hj => ?_, fun j hj => ?_, h3, h4⟩
  · show upd S.1 c.toNatClampNeg (enc kd q u) j = enc (upd T.1 c.toNatClampNeg kd j) (upd T.2.1 c.toNatClampNeg q j) (upd T.2.2.1 c.toNatClampNeg (vp_nar .boolean u) j)
    by_cases ej : j = c.toNatClampNeg
    · rw [ej, upd_same, upd_same, upd_same, upd_same, nar_u (vq_u hv)]
    · rw [upd_ne _ _ ej, upd_ne _ _ ej, upd_ne _ _ ej, upd_ne _ _ ej]
      exact h1 j hj
  · show vp_updL S.2.1 c.toNatClampNeg (f_X1_digitsOf (enc kd q u)) j = f_X1_digitsOf (upd S.1 c.toNatClampNeg (enc kd q u) j)
    by_cases ej : j = c.toNatClampNeg
    · rw [ej, updL_s, upd_same]
    · rw [updL_n _ _ ej, upd_ne _ _ ej]
      exact h2 j hj
theorem rw_come {S : sX} {T : sM} {c kd q u : Int32} (h : Rw S T) (hI : IM T) (hc : vp_in c 8) (hv : vq kd q u) : (r_X5_bring c (enc kd q u) S).1 = (r_X7_come c kd q u T).1 ∧ Rw (r_X5_bring c (enc kd q u) S).2 (r_X7_come c kd q u T).2 := by
  refine ⟨?_, ?_⟩
  · rw [br_1, cm_1, h.1.1 _ (vp_lt hc)]
    by_cases e : T.1 c.toNatClampNeg = kd ∧ T.2.1 c.toNatClampNeg = q ∧ T.2.2.1 c.toNatClampNeg = u
    · rw [if_pos e, if_pos (by rw [e.1, e.2.1, e.2.2])]
    · rw [if_neg e, if_neg (fun z => e (enc_inj (hI _ (vp_lt hc)) hv z))]
  · rw [br_2, cm_2]
    exact ⟨rw_put h.1 hv, congrArg (fun x => x + 1) h.2⟩
theorem rw_rf {S : sX} {T : sM} (h : Rw S T) : (r_X5_refuse S).1 = (r_X7_refused T).1 ∧ Rw (r_X5_refuse S).2 (r_X7_refused T).2 :=
  ⟨rfl, ⟨h.1.1, h.1.2.1, congrArg (fun x => x + 1) h.1.2.2.1, h.1.2.2.2⟩, h.2⟩
theorem enc_q (q : Int32) : f_X2_quarters q = enc 0 q 0 := by
  unfold enc f_X2_quarters
  rw [if_neg (by decide)]
  by_cases h : q = 0
  · rw [if_pos h, h]
    decide
  · rw [if_neg h]
theorem enc_z (u : Int32) : f_X2_nought u = enc 0 0 u := rfl
theorem enc_e (u : Int32) : f_X2_withoutEnd u = enc 1 0 u := rfl
/-- both ways of refusing a cell -/
theorem nc_iff (c : Int32) : f_X7_isNoCell c = 0 ↔ (¬ c < 0 ∧ ¬ 8 ≤ c) := by
  constructor
  · intro h
    have := (vp_in_iff (x := c) (n := 8)).mp (qx_cell h)
    have e0 : (0 : Int32).toInt = 0 := rfl
    have e8 : (8 : Int32).toInt = 8 := rfl
    rw [Int32.lt_iff_toInt_lt, Int32.le_iff_toInt_le]
    omega
  · intro ⟨h1, h2⟩
    unfold f_X7_isNoCell
    have e8 : (8 : Int32).toInt = 8 := rfl
    have e7 : (7 : Int32).toInt = 7 := rfl
    rw [in_1 ⟨h1, by rw [Int32.lt_iff_toInt_lt]; rw [Int32.le_iff_toInt_le] at h2; omega⟩]
    decide
