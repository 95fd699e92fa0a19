/-! the cells stay such as can be -/
theorem vq_u {kd q u : Int32} (h : vq kd q u) : u = 0 ∨ u = 1 := by
  rcases h with ⟨_, _, _, h | h⟩ | ⟨_, _, h⟩ | ⟨_, _, _, _, h⟩ | ⟨_, _, _, _, h⟩ | ⟨_, _, _, _, h⟩ | ⟨_, _, _, h⟩ | ⟨_, _, _, _, h⟩
  · exact Or.inl h
  · exact Or.inr h.1
  · exact h
  · exact Or.inl h
  · exact Or.inl h
  · exact Or.inl h
  · exact Or.inl h
  · exact Or.inl h
theorem im_come {S : sM} {c kd q u : Int32} (h : IM S) (hv : vq kd q u) : IM (r_X7_come c kd q u S).2 := by
  have e : (r_X7_come c kd q u S).2 = (upd S.1 c.toNatClampNeg kd, upd S.2.1 c.toNatClampNeg q, upd S.2.2.1 c.toNatClampNeg (vp_nar .boolean u), S.2.2.2.1 + 1, S.2.2.2.2.1, S.2.2.2.2.2.1, S.2.2.2.2.2.2) := by
    unfold r_X7_come
    (repeat' split) <;> rfl
  rw [e]
  intro j hj
  show vq (upd S.1 c.toNatClampNeg kd j) (upd S.2.1 c.toNatClampNeg q j) (upd S.2.2.1 c.toNatClampNeg (vp_nar .boolean u) j)
  by_cases ej : j = c.toNatClampNeg
  · have eu : vp_nar .boolean u = u := by
      rcases vq_u hv with rfl | rfl <;> rfl
    rw [ej, upd_same, upd_same, upd_same, eu]
    exact hv
  · rw [upd_ne _ _ ej, upd_ne _ _ ej, upd_ne _ _ ej]
    exact h j hj
theorem im_ite {c : Prop} [Decidable c] {a b : Int32 × sM} (ha : c → IM a.2) (hb : ¬ c → IM b.2) : IM (if c then a else b).2 := by
  by_cases h : c
  · rw [if_pos h]; exact ha h
  · rw [if_neg h]; exact hb h
theorem im_pr {a : Int32} {b : sM} (h : IM b) : IM (a, b).2 := h
theorem im_rf {S : sM} (h : IM S) : IM (r_X7_refused S).2 := im_kind0 h rfl rfl rfl
theorem im_at {S : sM} {c : Int32} (h : IM S) (hc : vp_in c 8) : vq (S.1 c.toNatClampNeg) (S.2.1 c.toNatClampNeg) (S.2.2.1 c.toNatClampNeg) := h _ (vp_lt hc)
theorem vq_q {q : Int32} (h : ¬ f_X7_isIn q (-160) 160 = 0) : vq 0 q 0 := by
  obtain ⟨h1, h2⟩ := qx_in h
  rw [Int32.lt_iff_toInt_lt] at h1 h2
  have e1 : (-160 : Int32).toInt = -160 := rfl
  have e2 : (160 : Int32).toInt = 160 := rfl
  exact Or.inl ⟨rfl, by omega, by omega, Or.inl rfl⟩
theorem vq_z {u : Int32} (hu : u = 0 ∨ u = 1) : vq 0 0 u := Or.inl ⟨rfl, by decide, by decide, hu.elim Or.inl (fun z => Or.inr ⟨z, rfl⟩)⟩
theorem vq_e {u : Int32} (hu : u = 0 ∨ u = 1) : vq 1 0 u := Or.inr (Or.inl ⟨rfl, rfl, hu⟩)
theorem im_quarter {S : sM} (c q : Int32) (h : IM S) : IM (r_X7_quarter c q S).2 := by
  unfold r_X7_quarter
  exact im_ite (fun _ => im_ite (fun _ => im_ref h) (fun _ => im_ref h)) (fun hq => im_ite (fun _ => im_pr (im_come (im_ref h) (vq_q hq))) (fun _ => im_ref h))
theorem im_zero {S : sM} (c : Int32) {u : Int32} (hu : u = 0 ∨ u = 1) (h : IM S) : IM (r_X7_zero c u S).2 := by
  unfold r_X7_zero
  exact im_ite (fun _ => im_pr (im_come (im_ref h) (vq_z hu))) (fun _ => im_ref h)
theorem im_endless {S : sM} (c : Int32) {u : Int32} (hu : u = 0 ∨ u = 1) (h : IM S) : IM (r_X7_endless c u S).2 := by
  unfold r_X7_endless
  exact im_ite (fun _ => im_pr (im_come (im_ref h) (vq_e hu))) (fun _ => im_ref h)
theorem im_copy {S : sM} (c d : Int32) (h : IM S) : IM (r_X7_copy c d S).2 := by
  unfold r_X7_copy
  exact im_ite (fun hc => im_ite (fun _ => im_ite (fun _ => im_pr (im_come (im_ref h) (im_at (im_ref h) (qx_cell hc)))) (fun _ => im_ref h)) (fun _ => im_ite (fun _ => im_ref h) (fun _ => im_ref h))) (fun _ => im_ite (fun _ => im_ref h) (fun _ => im_ref h))
theorem im_swap {S : sM} (c d : Int32) (h : IM S) : IM (r_X7_swap c d S).2 := by
  unfold r_X7_swap
  exact im_ite (fun hc => im_ite (fun hd => im_ite (fun _ => im_pr (im_kind0 (im_come (im_come (im_ref h) (im_at (im_ref h) (qx_cell hd))) (im_at (im_ref h) (qx_cell hc))) rfl rfl rfl)) (fun _ => im_ref h)) (fun _ => im_ite (fun _ => im_ref h) (fun _ => im_ref h))) (fun _ => im_ite (fun _ => im_ref h) (fun _ => im_ref h))
theorem im_step {S : sM} (c b : Int32) (h : IM S) : IM (r_X7_step c b S).2 := by
  unfold r_X7_step
  exact im_ite (fun _ => im_ite (fun _ => im_ref h) (fun _ => im_ref h)) (fun _ => im_ite (fun _ => im_ite (fun _ => im_ite (fun _ => im_rf (im_ref h)) (fun hq => im_pr (im_come (im_ref h) (vq_q hq)))) (fun _ => im_rf (im_ref h))) (fun _ => im_ref h))
theorem im_take {S : sM} {c : Int32} (d : Int32) (h : IM S) (hc : vp_in c 8) : IM (r_X7_take c d S).2 := by
  unfold r_X7_take
  exact im_come h (im_at h hc)
theorem im_greater {S : sM} (a b c : Int32) (h : IM S) : IM (r_X7_greater a b c S).2 := by
  unfold r_X7_greater
  exact im_ite (fun ha => im_ite (fun hb => im_ite (fun _ => im_ite (fun _ => im_ite (fun _ => im_pr (im_take c (im_ref h) (qx_cell ha))) (fun _ => im_pr (im_take c (im_ref h) (qx_cell hb)))) (fun _ => im_ref h)) (fun _ => im_ite (fun _ => im_ref h) (fun _ => im_ref h))) (fun _ => im_ite (fun _ => im_ref h) (fun _ => im_ref h))) (fun _ => im_ite (fun _ => im_ref h) (fun _ => im_ref h))
theorem im_lesser {S : sM} (a b c : Int32) (h : IM S) : IM (r_X7_lesser a b c S).2 := by
  unfold r_X7_lesser
  exact im_ite (fun ha => im_ite (fun hb => im_ite (fun _ => im_ite (fun _ => im_ite (fun _ => im_pr (im_take c (im_ref h) (qx_cell ha))) (fun _ => im_pr (im_take c (im_ref h) (qx_cell hb)))) (fun _ => im_ref h)) (fun _ => im_ite (fun _ => im_ref h) (fun _ => im_ref h))) (fun _ => im_ite (fun _ => im_ref h) (fun _ => im_ref h))) (fun _ => im_ite (fun _ => im_ref h) (fun _ => im_ref h))
theorem im_end {S : sM} (g c : Int32) (h : IM S) : IM (r_X7_end g c S).2 := by
  unfold r_X7_end
  exact im_ite (fun _ => im_pr (im_take c (im_ref h) (lz_X7_end_19 _ _ _ _ _ _ (vp_d (by decide)) (by decide)))) (fun _ => im_ref h)
theorem vq_neg {kd q u : Int32} (h : vq kd q u) (hk : kd ≤ 1) : (kd = 1 → ∀ w : Int32, w = 0 ∨ w = 1 → vq kd (-q) w) ∧ (¬ kd = 1 → (q = 0 → ∀ w : Int32, w = 0 ∨ w = 1 → vq kd (-q) w) ∧ vq kd (-q) 0) := by
  refine ⟨fun e w hw => ?_, fun e => ?_⟩
  · subst e
    rcases h with ⟨h, _⟩ | ⟨_, rfl, _⟩ | ⟨h, _⟩ | ⟨h, _⟩ | ⟨h, _⟩ | ⟨h, _⟩ | ⟨h, _⟩
    · exact absurd h (by decide)
    · exact vq_e hw
    · exact absurd h (by decide)
    · exact absurd h (by decide)
    · exact absurd h (by decide)
    · exact absurd h (by decide)
    · exact absurd h (by decide)
  · rcases h with ⟨rfl, h1, h2, h3⟩ | ⟨h, _⟩ | ⟨rfl, _⟩ | ⟨rfl, _⟩ | ⟨rfl, _⟩ | ⟨rfl, _⟩ | ⟨rfl, _⟩
    · refine ⟨fun e0 w hw => ?_, ?_⟩
      · subst e0; exact vq_z hw
      · have en : (-q).toInt = -q.toInt := by rw [Int32.toInt_neg, Int.bmod_eq_of_le (by omega) (by omega)]
        exact Or.inl ⟨rfl, by omega, by omega, Or.inl rfl⟩
    · exact absurd h e
    · exact absurd hk (by decide)
    · exact absurd hk (by decide)
    · exact absurd hk (by decide)
    · exact absurd hk (by decide)
    · exact absurd hk (by decide)
theorem im_turn {S : sM} (c : Int32) (h : IM S) : IM (r_X7_turn c S).2 := by
  unfold r_X7_turn
  exact im_ite (fun hr => im_ite (fun hk => im_ite (fun h1 => im_ite (fun _ => im_pr (im_come (im_ref h) ((vq_neg (im_at (im_ref h) (qx_cell (qx_ref hr))) hk).1 h1 1 (Or.inr rfl)))) (fun _ => im_pr (im_come (im_ref h) ((vq_neg (im_at (im_ref h) (qx_cell (qx_ref hr))) hk).1 h1 0 (Or.inl rfl))))) (fun h1 => im_ite (fun h0 => im_ite (fun _ => im_pr (im_come (im_ref h) (((vq_neg (im_at (im_ref h) (qx_cell (qx_ref hr))) hk).2 h1).1 h0 1 (Or.inr rfl)))) (fun _ => im_pr (im_come (im_ref h) (((vq_neg (im_at (im_ref h) (qx_cell (qx_ref hr))) hk).2 h1).1 h0 0 (Or.inl rfl))))) (fun _ => im_pr (im_come (im_ref h) ((vq_neg (im_at (im_ref h) (qx_cell (qx_ref hr))) hk).2 h1).2)))) (fun _ => im_rf (im_ref h))) (fun _ => im_ref h)
