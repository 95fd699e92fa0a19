/-! the law: class, model and Out side by side -/
theorem ms_ls {A : qA} {T : sM} {hp hp' : qq_H} {fs : List Value} (h : ms_M A T hp) (ho : hp.2 419 = .inr (3, fs)) (hl : hp.1 = hp'.1) (h2 : ∀ j : Nat, 84 ≤ j → j ≠ 419 → hp'.2 j = hp.2 j) (h3 : ∀ j : Nat, j < 80 → hp'.2 j = hp.2 j) : ms_M A T hp' := by
  obtain ⟨a1, a2, a3, a4, a5, a6, a7, ⟨pf, b1, b2⟩, b3, b4, lg, b5, b6⟩ := h
  obtain ⟨⟨c1, c2⟩, ⟨c3, c4⟩, ⟨c5, c6⟩, c7⟩ := a7
  have hpr : ∀ j, j < 321 → 84 ≤ pr j ∧ pr j ≠ 419 := fun j hj => by unfold pr; (repeat' split) <;> omega
  have n1 : A.1 ≠ 419 := fun e => by rw [e, ho] at a4; exact nomatch a4
  have n2 : A.2.1 ≠ 419 := fun e => by rw [e, ho] at a5; exact nomatch a5
  have n3 : A.2.2 ≠ 419 := fun e => by rw [e, ho] at a6; exact nomatch a6
  refine ⟨qq_exm a1 (Nat.le_of_eq hl) h3, by omega, (h2 _ (by omega) (by omega)).trans a3, (h2 _ (by omega) n1).trans a4, (h2 _ (by omega) n2).trans a5, (h2 _ (by omega) n3).trans a6, ⟨⟨c1, by omega⟩, ⟨c3, by omega⟩, ⟨c5, by omega⟩, c7⟩, ⟨pf, (h2 _ (by omega) (by omega)).trans b1, b2⟩, fun j hj => (h2 _ (hpr j hj).1 (hpr j hj).2).trans (b3 j hj), (h2 _ (by omega) (by omega)).trans b4, lg, (h2 _ (by omega) (by omega)).trans b5, fun j r hj hr => ?_⟩
  obtain ⟨d1, d2, d3⟩ := b6 j r hj hr
  have n4 : r ≠ 419 := fun e => by rw [e, ho] at d3; exact nomatch d3
  exact ⟨d1, by omega, (h2 _ (by omega) n4).trans d3⟩
/-- the state of the law: class S, model T; the script n, f -/
def LI (n : Nat) (f : Nat → Int32) (S : sX) (T : sM) (hp : qq_H) : Prop := cs_X S hp ∧ (∃ A, ms_M A T hp) ∧ (∃ x sv, hp.2 419 = .inr (3, [.long x, sv])) ∧ 419 < hp.1 ∧ IM T ∧ hp.2 0 = .inl (0, n, .inl f)
/-- behind a method of the class by the law's own method -/
theorem LI_c {n : Nat} {f : Nat → Int32} {S S' : sX} {T : sM} {hp hp' : qq_H} {x : Int64} {sv : Value} (h : LI n f S T hp) (h1 : cs_X S' hp') (h2 : hp'.2 419 = .inr (3, [.long x, sv])) (h3 : ls_X 419 hp hp') : LI n f S' T hp' := by
  obtain ⟨_, ⟨A, a2⟩, ⟨y, sw, a3⟩, a4, a5, a6⟩ := h
  obtain ⟨b1, b2⟩ := h3
  exact ⟨h1, ⟨A, ms_ls a2 a3 b1.symm (fun j d e => b2 j (Or.inr d) e) (fun j d => b2 j (Or.inl d) (by omega))⟩, ⟨x, sv, h2⟩, by omega, a5, (b2 0 (Or.inl (by decide)) (by decide)).trans a6⟩
/-- .. by a method of the class itself -/
theorem LI_x {n : Nat} {f : Nat → Int32} {S S' : sX} {T : sM} {hp hp' : qq_H} (h : LI n f S T hp) (h1 : cs_X S' hp') (h3 : sm_X hp hp') : LI n f S' T hp' := by
  obtain ⟨y, sw, a3⟩ := h.2.2.1
  exact LI_c h h1 ((h3.2 419 (Or.inr (by decide))).trans a3) ⟨h3.1, fun j a _ => h3.2 j a⟩
/-- behind a method of the model -/
theorem LI_m {n : Nat} {f : Nat → Int32} {S : sX} {T T' : sM} {hp hp' : qq_H} {A A' : qA} (h : LI n f S T hp) (hA : ms_M A T hp) (h1 : ms_M A' T' hp') (h2 : fr A hp hp') (h3 : IM T') : LI n f S T' hp' := by
  obtain ⟨⟨c1, c2, c3, c4, c5, c6⟩, _, ⟨x, sv, a3⟩, a4, _, a6⟩ := h
  obtain ⟨f1, f2⟩ := h2
  obtain ⟨⟨b1, _⟩, ⟨b2, _⟩, ⟨b3, _⟩, _⟩ := hA.2.2.2.2.2.2.1
  have n1 : A.1 ≠ 419 := fun e => by have := hA.2.2.2.1; rw [e, a3] at this; exact nomatch this
  have n2 : A.2.1 ≠ 419 := fun e => by have := hA.2.2.2.2.1; rw [e, a3] at this; exact nomatch this
  have n3 : A.2.2 ≠ 419 := fun e => by have := hA.2.2.2.2.2.1; rw [e, a3] at this; exact nomatch this
  have lo : ∀ j : Nat, j < 84 → hp'.2 j = hp.2 j := fun j hj => f2 j (by omega) (by omega) (by omega) (by omega) (by omega) (by omega)
  exact ⟨⟨qq_exm c1 f1 (fun k hk => lo k (by omega)), by omega, (lo _ (by decide)).trans c3, (lo _ (by decide)).trans c4, (lo _ (by decide)).trans c5, (lo _ (by decide)).trans c6⟩, ⟨A', h1⟩, ⟨x, sv, (f2 419 a4 (by omega) (by omega) n1.symm n2.symm n3.symm).trans a3⟩, by omega, h3, (lo 0 (by decide)).trans a6⟩
theorem im_th {T T' : sM} (h : IM T) (e1 : T'.1 = T.1) (e2 : T'.2.1 = T.2.1) (e3 : T'.2.2.1 = T.2.2.1) : IM T' := im_kind0 h e1 e2 e3
theorem LI_t {n : Nat} {f : Nat → Int32} {S : sX} {T : sM} {hp hp' : qq_H} {x : Int64} {sv : Value} (h : LI n f S T hp) (h1 : cs_X S hp') (h2 : hp'.2 419 = .inr (3, [.long x, sv])) (h3 : hp.1 ≤ hp'.1) (h4 : ∀ j : Nat, j < hp.1 → j ≠ 419 → hp'.2 j = hp.2 j) : LI n f S T hp' := by
  obtain ⟨_, ⟨A, a2⟩, ⟨y, sw, a3⟩, a4, a5, a6⟩ := h
  obtain ⟨H, eH⟩ : ∃ H : qq_H, ((hp.1, hp'.2) : qq_H) = H := ⟨_, rfl⟩
  have g1 : H.1 = hp.1 := by rw [← eH]
  have g2 : H.2 = hp'.2 := by rw [← eH]
  obtain ⟨K, eK⟩ : ∃ K : qq_H, ((hp.1, fun j => if j < hp.1 then hp'.2 j else hp.2 j) : qq_H) = K := ⟨_, rfl⟩
  have k1 : K.1 = hp.1 := by rw [← eK]
  have k2 : ∀ j, j < hp.1 → K.2 j = hp'.2 j := fun j hj => by rw [← eK]; exact if_pos hj
  have k3 : ∀ j, ¬ j < hp.1 → K.2 j = hp.2 j := fun j hj => by rw [← eK]; exact if_neg hj
  have hK : ms_M A T K := ms_ls a2 a3 k1.symm (fun j d e => by
    by_cases hj : j < hp.1
    · rw [k2 j hj]; exact h4 j hj e
    · exact k3 j hj) (fun j d => by rw [k2 j (by omega)]; exact h4 j (by omega) (by omega))
  exact ⟨h1, ⟨A, (ms_g hK (by omega) (fun j hj => (k2 j (by omega)).symm)).1⟩, ⟨x, sv, h2⟩, by omega, a5, (h4 0 (by omega) (by decide)).trans a6⟩
