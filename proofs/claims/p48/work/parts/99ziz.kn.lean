/-! how often one knocked: class and model -/
def kx (S : sX) : Int32 := S.2.2.2.2.2
def km (S : sM) : Int32 := S.2.2.2.2.2.1
def RelL (S : sX) (T : sM) : Prop := kx S = km T
theorem kx_ite {c : Prop} [Decidable c] {a b : Int32 × sX} {S : sX} (ha : kx a.2 = kx S) (hb : kx b.2 = kx S) : kx (if c then a else b).2 = kx S := by
  by_cases h : c
  · rw [if_pos h]; exact ha
  · rw [if_neg h]; exact hb
theorem kx_bring (c n : Int32) (S : sX) : kx (r_X5_bring c n S).2 = kx S := by
  unfold r_X5_bring
  exact kx_ite rfl rfl
theorem kx_quarter (c q : Int32) (S : sX) : kx (r_X5_quarter c q S).2 = kx S := kx_bring _ _ S
theorem kx_zero (c q : Int32) (S : sX) : kx (r_X5_zero c q S).2 = kx S := kx_bring _ _ S
theorem kx_endless (c q : Int32) (S : sX) : kx (r_X5_endless c q S).2 = kx S := kx_bring _ _ S
theorem kx_copy (c q : Int32) (S : sX) : kx (r_X5_copy c q S).2 = kx S := kx_bring _ _ S
theorem kx_swap (c q : Int32) (S : sX) : kx (r_X5_swap c q S).2 = kx S := kx_bring _ _ _
theorem kx_step (c b : Int32) (S : sX) : kx (r_X5_step c b S).2 = kx S := by
  unfold r_X5_step
  exact kx_ite (kx_ite rfl (kx_bring _ _ S)) rfl
theorem kx_turn (c : Int32) (S : sX) : kx (r_X5_turn c S).2 = kx S := by
  unfold r_X5_turn
  exact kx_ite (kx_bring _ _ S) (kx_ite (kx_bring _ _ S) rfl)
theorem kx_bc (h c d : Int32) (S : sX) : kx (r_X5_bringChanged h c d S).2 = kx S := by
  unfold r_X5_bringChanged
  exact kx_ite rfl (kx_bring _ _ S)
theorem kx_power (c d : Int32) (S : sX) : kx (r_X5_power c d S).2 = kx S := kx_bc _ _ _ S
theorem kx_lessen (c d : Int32) (S : sX) : kx (r_X5_lessen c d S).2 = kx S := kx_bc _ _ _ S
theorem kx_log (c d : Int32) (S : sX) : kx (r_X5_log c d S).2 = kx S := kx_bc _ _ _ S
theorem kx_greater (a b c : Int32) (S : sX) : kx (r_X5_greater a b c S).2 = kx S := by
  unfold r_X5_greater
  exact kx_ite (kx_bring _ _ S) (kx_bring _ _ S)
theorem kx_lesser (a b c : Int32) (S : sX) : kx (r_X5_lesser a b c S).2 = kx S := by
  unfold r_X5_lesser
  exact kx_ite (kx_bring _ _ S) (kx_bring _ _ S)
theorem kx_rem2 : ∀ (fu : Nat) (i : Int32) (S : sX), kx (lr_X5_remember_2 fu i S) = kx S
  | 0, _, _ => rfl
  | fu + 1, i, S => by
    rw [lr_X5_remember_2]
    by_cases h : 8 ≤ i
    · rw [if_pos h]
    · rw [if_neg h]; exact kx_rem2 fu _ _
theorem kx_rem (S : sX) : kx (r_X5_remember S) = kx S := kx_rem2 _ _ S
theorem kx_wipe6 : ∀ (fu : Nat) (i : Int32) (S : sX), kx (lr_X5_wipe_6 fu i S).2 = kx S
  | 0, _, _ => rfl
  | fu + 1, i, S => by
    rw [lr_X5_wipe_6]
    exact kx_ite rfl (kx_wipe6 fu _ _)
theorem kx_wipe (S : sX) : kx (r_X5_wipe S).2 = kx S := (kx_wipe6 _ _ _).trans (kx_rem S)
theorem kx_row41 (a b : Int32) : ∀ (fu : Nat) (i : Int32) (S : sX), kx (lr_X5_row_41 a b fu i S).2 = kx S
  | 0, _, _ => rfl
  | fu + 1, i, S => by
    rw [lr_X5_row_41]
    exact kx_ite rfl (kx_row41 a b fu _ _)
theorem kx_row (a b : Int32) (S : sX) : kx (r_X5_row a b S).2 = kx S := by
  unfold r_X5_row
  exact kx_ite rfl ((kx_row41 a b _ _ _).trans (kx_rem S))
theorem kx_all10 (a : Int32) : ∀ (fu : Nat) (n i : Int32) (S : sX), kx (lr_X5_all_10 a fu n i S).2 = kx S
  | 0, _, _, _ => rfl
  | fu + 1, n, i, S => by
    rw [lr_X5_all_10]
    exact kx_ite rfl (kx_ite (kx_all10 a fu _ _ _) (kx_all10 a fu _ _ _))
theorem kx_all (a : Int32) (S : sX) : kx (r_X5_all a S).2 = kx S := kx_all10 a _ _ _ S
theorem kx_end9 (a b : Int32) : ∀ (fu : Nat) (n i : Int32) (S : sX), kx (lr_X5_end_9 a b fu n i S).2 = kx S
  | 0, _, _, _ => rfl
  | fu + 1, n, i, S => by
    rw [lr_X5_end_9]
    exact kx_ite (kx_bring _ _ S) (kx_ite (kx_ite (kx_end9 a b fu _ _ _) (kx_end9 a b fu _ _ _)) (kx_ite (kx_end9 a b fu _ _ _) (kx_end9 a b fu _ _ _)))
theorem kx_end (a b : Int32) (S : sX) : kx (r_X5_end a b S).2 = kx S := kx_end9 a b _ _ _ S
theorem kx_sort14 (i : Int32) (g : sX → Int32 × sX) (hg : ∀ S, kx (g S).2 = kx S) : ∀ (fu : Nat) (k : Int32) (S : sX), kx (lr_X5_sort_14 i g fu k S).2 = kx S
  | 0, _, _ => rfl
  | fu + 1, k, S => by
    rw [lr_X5_sort_14]
    exact kx_ite (hg S) (kx_ite (hg S) (kx_sort14 i g hg fu _ _))
theorem kx_sort6 : ∀ (fu : Nat) (i : Int32) (S : sX), kx (lr_X5_sort_6 fu i S).2 = kx S
  | 0, _, _ => rfl
  | fu + 1, i, S => by
    rw [lr_X5_sort_6]
    exact kx_ite rfl (kx_sort14 i _ (fun S => kx_sort6 fu _ S) _ _ S)
theorem kx_sort (S : sX) : kx (r_X5_sort S).2 = kx S := (kx_sort6 _ _ _).trans (kx_rem S)
/-! the model -/
theorem km_ite {c : Prop} [Decidable c] {a b : Int32 × sM} {S : sM} (ha : km a.2 = km S) (hb : km b.2 = km S) : km (if c then a else b).2 = km S := by
  by_cases h : c
  · rw [if_pos h]; exact ha
  · rw [if_neg h]; exact hb
theorem km_ref (i a : Int32) (S : sM) : km (r_X7_isRefused i a S).2 = km S := by
  rw [ts_ref]
  rfl
theorem km_come (c k q u : Int32) (S : sM) : km (r_X7_come c k q u S).2 = km S := by
  unfold r_X7_come
  (repeat' split) <;> rfl
theorem km_take (c d : Int32) (S : sM) : km (r_X7_take c d S).2 = km S := km_come _ _ _ _ S
theorem km_o {T X : sM} (e : ∃ y, X = th y T) : km X = km T := by
  obtain ⟨y, rfl⟩ := e
  rfl
theorem km_om {x : Option qR} {a : Int32 × sM} {b : qR → Int32 × sM} {S : sM} (ha : km a.2 = km S) (hb : ∀ fo, km (b fo).2 = km S) : km (om x a b).2 = km S := by
  cases x with
  | none => exact ha
  | some f => exact hb f
theorem km_isRefused (i a : Int32) (S : sM) : km (r_X7_isRefused i a S).2 = km S := km_ref i a S
theorem km_refused (S : sM) : km (r_X7_refused S).2 = km S := rfl
theorem km_lay_44 (a b : Int32) (f g h : qR) : ∀ (fu : Nat) (k : Int32) (S : sM), km (lf_X7_lay_44 a b f g h fu k S).2 = km S
  | 0, _, _ => rfl
  | fu + 1, k, S => by
    rw [lf_X7_lay_44]
    exact km_ite rfl (km_lay_44 a b f g h fu _ _)
theorem km_sort_125 (f g h j : qR) : ∀ (fu : Nat) (k : Int32) (S : sM), km (lf_X7_sort_125 f g h j fu k S).2 = km S
  | 0, _, _ => rfl
  | fu + 1, k, S => by
    rw [lf_X7_sort_125]
    exact km_ite rfl (km_sort_125 f g h j fu _ _)
theorem km_ite2 {c : Prop} [Decidable c] {a b : Int32 × Int32 × sM} {S : sM} (ha : km a.2.2 = km S) (hb : km b.2.2 = km S) : km (if c then a else b).2.2 = km S := by
  by_cases h : c
  · rw [if_pos h]; exact ha
  · rw [if_neg h]; exact hb
theorem km_om2 {x : Option qR} {a : Int32 × Int32 × sM} {b : qR → Int32 × Int32 × sM} {S : sM} (ha : km a.2.2 = km S) (hb : ∀ fo, km (b fo).2.2 = km S) : km (om x a b).2.2 = km S := by
  cases x with
  | none => exact ha
  | some f => exact hb f
theorem km_all_37 (a b : Int32) : ∀ (fu : Nat) (mn k : Int32) (S : sM), km (lf_X7_all_37 a b fu mn k S).2.2 = km S
  | 0, _, _, _ => rfl
  | fu + 1, mn, k, S => by
    rw [lf_X7_all_37]
    exact km_ite2 rfl (km_om2 (km_all_37 a b fu _ _ _) (fun fo => km_ite2 ((km_all_37 a b fu _ _ _).trans (km_come _ _ _ _ S)) ((km_all_37 a b fu _ _ _).trans (km_come _ _ _ _ S))))
theorem km_quarter (cell q9 : Int32) (S : sM) : km (r_X7_quarter cell q9 S).2 = km S := by
  unfold r_X7_quarter
  exact (km_ite (km_ite ((km_isRefused _ _ _).trans rfl) ((km_isRefused _ _ _).trans rfl)) (km_ite ((km_come _ _ _ _ _).trans ((km_isRefused _ _ _).trans rfl)) ((km_isRefused _ _ _).trans rfl)))
theorem km_zero (cell u9 : Int32) (S : sM) : km (r_X7_zero cell u9 S).2 = km S := by
  unfold r_X7_zero
  exact (km_ite ((km_come _ _ _ _ _).trans ((km_isRefused _ _ _).trans rfl)) ((km_isRefused _ _ _).trans rfl))
theorem km_endless (cell u9 : Int32) (S : sM) : km (r_X7_endless cell u9 S).2 = km S := by
  unfold r_X7_endless
  exact (km_ite ((km_come _ _ _ _ _).trans ((km_isRefused _ _ _).trans rfl)) ((km_isRefused _ _ _).trans rfl))
theorem km_copy (cell into : Int32) (S : sM) : km (r_X7_copy cell into S).2 = km S := by
  unfold r_X7_copy
  exact (km_ite (km_ite (km_ite ((km_come _ _ _ _ _).trans ((km_isRefused _ _ _).trans rfl)) ((km_isRefused _ _ _).trans rfl)) (km_ite ((km_isRefused _ _ _).trans rfl) ((km_isRefused _ _ _).trans rfl))) (km_ite ((km_isRefused _ _ _).trans rfl) ((km_isRefused _ _ _).trans rfl)))
theorem km_swap (cell other : Int32) (S : sM) : km (r_X7_swap cell other S).2 = km S := by
  unfold r_X7_swap
  exact (km_ite (km_ite (km_ite ((km_come _ _ _ _ _).trans ((km_come _ _ _ _ _).trans ((km_isRefused _ _ _).trans rfl))) ((km_isRefused _ _ _).trans rfl)) (km_ite ((km_isRefused _ _ _).trans rfl) ((km_isRefused _ _ _).trans rfl))) (km_ite ((km_isRefused _ _ _).trans rfl) ((km_isRefused _ _ _).trans rfl)))
theorem km_step (cell by9 : Int32) (S : sM) : km (r_X7_step cell by9 S).2 = km S := by
  unfold r_X7_step
  exact (km_ite (km_ite ((km_isRefused _ _ _).trans rfl) ((km_isRefused _ _ _).trans rfl)) (km_ite (km_ite (km_ite ((km_refused _).trans ((km_isRefused _ _ _).trans rfl)) ((km_come _ _ _ _ _).trans ((km_isRefused _ _ _).trans rfl))) ((km_refused _).trans ((km_isRefused _ _ _).trans rfl))) ((km_isRefused _ _ _).trans rfl)))
theorem km_turn (cell : Int32) (S : sM) : km (r_X7_turn cell S).2 = km S := by
  unfold r_X7_turn
  exact (km_ite (km_ite (km_ite (km_ite ((km_come _ _ _ _ _).trans ((km_isRefused _ _ _).trans rfl)) ((km_come _ _ _ _ _).trans ((km_isRefused _ _ _).trans rfl))) (km_ite (km_ite ((km_come _ _ _ _ _).trans ((km_isRefused _ _ _).trans rfl)) ((km_come _ _ _ _ _).trans ((km_isRefused _ _ _).trans rfl))) ((km_come _ _ _ _ _).trans ((km_isRefused _ _ _).trans rfl)))) ((km_refused _).trans ((km_isRefused _ _ _).trans rfl))) ((km_isRefused _ _ _).trans rfl))
theorem km_lay (from9 by9 : Int32) (S : sM) : km (r_X7_lay from9 by9 S).2 = km S := by
  unfold r_X7_lay
  exact ((km_lay_44 _ _ _ _ _ _ _ _).trans rfl)
theorem km_row (from9 by9 : Int32) (S : sM) : km (r_X7_row from9 by9 S).2 = km S := by
  unfold r_X7_row
  exact (km_ite rfl (km_ite rfl (km_ite ((km_refused _).trans rfl) ((km_lay _ _ _).trans rfl))))
theorem km_wipe (S : sM) : km (r_X7_wipe S).2 = km S := by
  unfold r_X7_wipe
  exact ((km_lay _ _ _).trans rfl)
theorem km_made (how cell into : Int32) (S : sM) : km (r_X7_made how cell into S).2 = km S := by
  unfold r_X7_made
  exact (km_ite (km_ite (km_ite (km_om ((km_refused _).trans ((km_isRefused _ _ _).trans rfl)) (fun fo => (km_ite ((km_come _ _ _ _ _).trans ((km_isRefused _ _ _).trans rfl)) ((km_come _ _ _ _ _).trans ((km_isRefused _ _ _).trans rfl))))) ((km_isRefused _ _ _).trans rfl)) (km_ite ((km_isRefused _ _ _).trans rfl) ((km_isRefused _ _ _).trans rfl))) (km_ite ((km_isRefused _ _ _).trans rfl) ((km_isRefused _ _ _).trans rfl)))
theorem km_power (cell into : Int32) (S : sM) : km (r_X7_power cell into S).2 = km S := by
  unfold r_X7_power
  exact ((km_made _ _ _ _).trans rfl)
theorem km_lessen (cell into : Int32) (S : sM) : km (r_X7_lessen cell into S).2 = km S := by
  unfold r_X7_lessen
  exact ((km_made _ _ _ _).trans rfl)
theorem km_log (cell into : Int32) (S : sM) : km (r_X7_log cell into S).2 = km S := by
  unfold r_X7_log
  exact ((km_made _ _ _ _).trans rfl)
theorem km_greater (one other into : Int32) (S : sM) : km (r_X7_greater one other into S).2 = km S := by
  unfold r_X7_greater
  exact (km_ite (km_ite (km_ite (km_ite (km_ite ((km_take _ _ _).trans ((km_isRefused _ _ _).trans rfl)) ((km_take _ _ _).trans ((km_isRefused _ _ _).trans rfl))) ((km_isRefused _ _ _).trans rfl)) (km_ite ((km_isRefused _ _ _).trans rfl) ((km_isRefused _ _ _).trans rfl))) (km_ite ((km_isRefused _ _ _).trans rfl) ((km_isRefused _ _ _).trans rfl))) (km_ite ((km_isRefused _ _ _).trans rfl) ((km_isRefused _ _ _).trans rfl)))
theorem km_lesser (one other into : Int32) (S : sM) : km (r_X7_lesser one other into S).2 = km S := by
  unfold r_X7_lesser
  exact (km_ite (km_ite (km_ite (km_ite (km_ite ((km_take _ _ _).trans ((km_isRefused _ _ _).trans rfl)) ((km_take _ _ _).trans ((km_isRefused _ _ _).trans rfl))) ((km_isRefused _ _ _).trans rfl)) (km_ite ((km_isRefused _ _ _).trans rfl) ((km_isRefused _ _ _).trans rfl))) (km_ite ((km_isRefused _ _ _).trans rfl) ((km_isRefused _ _ _).trans rfl))) (km_ite ((km_isRefused _ _ _).trans rfl) ((km_isRefused _ _ _).trans rfl)))
theorem km_end (isG into : Int32) (S : sM) : km (r_X7_end isG into S).2 = km S := by
  unfold r_X7_end
  exact (km_ite ((km_take _ _ _).trans ((km_isRefused _ _ _).trans rfl)) ((km_isRefused _ _ _).trans rfl))
theorem km_sort (S : sM) : km (r_X7_sort S).2 = km S := by
  unfold r_X7_sort
  exact ((km_sort_125 _ _ _ _ _ _ _).trans rfl)
theorem km_all (how : Int32) (S : sM) : km (r_X7_all how S).2 = km S := by
  unfold r_X7_all
  exact (km_ite rfl ((km_all_37 _ _ _ _ _ _).trans rfl))
theorem rk_quarter {S S1 : sX} {T : sM} {k0 : Int32} {n n0 : Int64} {p0 p1 : Int32} (hR : RelL S T) (D : (k0 = 0 ∧ (¬ p0 < 0 ∧ ¬ 8 ≤ p0) ∧ (¬ p1 < -160 ∧ ¬ 160 < p1) ∧ S1 = (r_X5_quarter p0 p1 S).2 ∧ n0 = (r_X5_quarter p0 p1 S).1.toInt64) ∨ (k0 = 1 ∧ (p0 < 0 ∨ 8 ≤ p0) ∧ S1 = S ∧ n0 = n) ∨ (k0 = 2 ∧ (¬ p0 < 0 ∧ ¬ 8 ≤ p0) ∧ (p1 < -160 ∨ 160 < p1) ∧ S1 = S ∧ n0 = n)) : RelL S1 (r_X7_quarter p0 p1 T).2 := by
  rcases D with ⟨_, _, _, e, _⟩ | ⟨_, _, e, _⟩ | ⟨_, _, _, e, _⟩
  · rw [RelL, e]; exact ((kx_quarter _ _ S).trans hR).trans (km_quarter _ _ T).symm
  · rw [RelL, e]; exact ((Eq.refl (kx S)).trans hR).trans (km_quarter _ _ T).symm
  · rw [RelL, e]; exact ((Eq.refl (kx S)).trans hR).trans (km_quarter _ _ T).symm
theorem rk_zero {S S1 : sX} {T : sM} {k0 : Int32} {n n0 : Int64} {p0 p1 : Int32} (hR : RelL S T) (D : (k0 = 0 ∧ (¬ p0 < 0 ∧ ¬ 8 ≤ p0) ∧ S1 = (r_X5_zero p0 p1 S).2 ∧ n0 = (r_X5_zero p0 p1 S).1.toInt64) ∨ (k0 = 1 ∧ (p0 < 0 ∨ 8 ≤ p0) ∧ S1 = S ∧ n0 = n)) : RelL S1 (r_X7_zero p0 p1 T).2 := by
  rcases D with ⟨_, _, e, _⟩ | ⟨_, _, e, _⟩
  · rw [RelL, e]; exact ((kx_zero _ _ S).trans hR).trans (km_zero _ _ T).symm
  · rw [RelL, e]; exact ((Eq.refl (kx S)).trans hR).trans (km_zero _ _ T).symm
theorem rk_endless {S S1 : sX} {T : sM} {k0 : Int32} {n n0 : Int64} {p0 p1 : Int32} (hR : RelL S T) (D : (k0 = 0 ∧ (¬ p0 < 0 ∧ ¬ 8 ≤ p0) ∧ S1 = (r_X5_endless p0 p1 S).2 ∧ n0 = (r_X5_endless p0 p1 S).1.toInt64) ∨ (k0 = 1 ∧ (p0 < 0 ∨ 8 ≤ p0) ∧ S1 = S ∧ n0 = n)) : RelL S1 (r_X7_endless p0 p1 T).2 := by
  rcases D with ⟨_, _, e, _⟩ | ⟨_, _, e, _⟩
  · rw [RelL, e]; exact ((kx_endless _ _ S).trans hR).trans (km_endless _ _ T).symm
  · rw [RelL, e]; exact ((Eq.refl (kx S)).trans hR).trans (km_endless _ _ T).symm
theorem rk_row {S S1 : sX} {T : sM} {k0 : Int32} {n n0 : Int64} {p0 p1 : Int32} (hR : RelL S T) (D : (k0 = 0 ∧ (¬ p0 < -160 ∧ ¬ 160 < p0) ∧ (¬ p1 < -40 ∧ ¬ 40 < p1) ∧ S1 = (r_X5_row p0 p1 S).2 ∧ n0 = (r_X5_row p0 p1 S).1.toInt64) ∨ (k0 = 1 ∧ (p0 < -160 ∨ 160 < p0) ∧ S1 = S ∧ n0 = n) ∨ (k0 = 1 ∧ (¬ p0 < -160 ∧ ¬ 160 < p0) ∧ (p1 < -40 ∨ 40 < p1) ∧ S1 = S ∧ n0 = n)) : RelL S1 (r_X7_row p0 p1 T).2 := by
  rcases D with ⟨_, _, _, e, _⟩ | ⟨_, _, e, _⟩ | ⟨_, _, _, e, _⟩
  · rw [RelL, e]; exact ((kx_row _ _ S).trans hR).trans (km_row _ _ T).symm
  · rw [RelL, e]; exact ((Eq.refl (kx S)).trans hR).trans (km_row _ _ T).symm
  · rw [RelL, e]; exact ((Eq.refl (kx S)).trans hR).trans (km_row _ _ T).symm
theorem rk_wipe {S : sX} {T : sM} (hR : RelL S T) : RelL (r_X5_wipe S).2 (r_X7_wipe T).2 := ((kx_wipe S).trans hR).trans (km_wipe T).symm
theorem rk_copy {S S1 : sX} {T : sM} {k0 : Int32} {n n0 : Int64} {p0 p1 : Int32} (hR : RelL S T) (D : (k0 = 0 ∧ (¬ p0 < 0 ∧ ¬ 8 ≤ p0) ∧ (¬ p1 < 0 ∧ ¬ 8 ≤ p1) ∧ S1 = (r_X5_copy p0 p1 S).2 ∧ n0 = (r_X5_copy p0 p1 S).1.toInt64) ∨ (k0 = 1 ∧ (p0 < 0 ∨ 8 ≤ p0) ∧ S1 = S ∧ n0 = n) ∨ (k0 = 1 ∧ (¬ p0 < 0 ∧ ¬ 8 ≤ p0) ∧ (p1 < 0 ∨ 8 ≤ p1) ∧ S1 = S ∧ n0 = n)) : RelL S1 (r_X7_copy p0 p1 T).2 := by
  rcases D with ⟨_, _, _, e, _⟩ | ⟨_, _, e, _⟩ | ⟨_, _, _, e, _⟩
  · rw [RelL, e]; exact ((kx_copy _ _ S).trans hR).trans (km_copy _ _ T).symm
  · rw [RelL, e]; exact ((Eq.refl (kx S)).trans hR).trans (km_copy _ _ T).symm
  · rw [RelL, e]; exact ((Eq.refl (kx S)).trans hR).trans (km_copy _ _ T).symm
theorem rk_swap {S S1 : sX} {T : sM} {k0 : Int32} {n n0 : Int64} {p0 p1 : Int32} (hR : RelL S T) (D : (k0 = 0 ∧ (¬ p0 < 0 ∧ ¬ 8 ≤ p0) ∧ (¬ p1 < 0 ∧ ¬ 8 ≤ p1) ∧ S1 = (r_X5_swap p0 p1 S).2 ∧ n0 = (r_X5_swap p0 p1 S).1.toInt64) ∨ (k0 = 1 ∧ (p0 < 0 ∨ 8 ≤ p0) ∧ S1 = S ∧ n0 = n) ∨ (k0 = 1 ∧ (¬ p0 < 0 ∧ ¬ 8 ≤ p0) ∧ (p1 < 0 ∨ 8 ≤ p1) ∧ S1 = S ∧ n0 = n)) : RelL S1 (r_X7_swap p0 p1 T).2 := by
  rcases D with ⟨_, _, _, e, _⟩ | ⟨_, _, e, _⟩ | ⟨_, _, _, e, _⟩
  · rw [RelL, e]; exact ((kx_swap _ _ S).trans hR).trans (km_swap _ _ T).symm
  · rw [RelL, e]; exact ((Eq.refl (kx S)).trans hR).trans (km_swap _ _ T).symm
  · rw [RelL, e]; exact ((Eq.refl (kx S)).trans hR).trans (km_swap _ _ T).symm
theorem rk_step {S S1 : sX} {T : sM} {k0 : Int32} {n n0 : Int64} {p0 p1 : Int32} (hR : RelL S T) (D : (k0 = 0 ∧ (¬ p0 < 0 ∧ ¬ 8 ≤ p0) ∧ (¬ p1 < -320 ∧ ¬ 320 < p1) ∧ S1 = (r_X5_step p0 p1 S).2 ∧ n0 = (r_X5_step p0 p1 S).1.toInt64) ∨ (k0 = 1 ∧ (p0 < 0 ∨ 8 ≤ p0) ∧ S1 = S ∧ n0 = n) ∨ (k0 = 2 ∧ (¬ p0 < 0 ∧ ¬ 8 ≤ p0) ∧ (p1 < -320 ∨ 320 < p1) ∧ S1 = S ∧ n0 = n)) : RelL S1 (r_X7_step p0 p1 T).2 := by
  rcases D with ⟨_, _, _, e, _⟩ | ⟨_, _, e, _⟩ | ⟨_, _, _, e, _⟩
  · rw [RelL, e]; exact ((kx_step _ _ S).trans hR).trans (km_step _ _ T).symm
  · rw [RelL, e]; exact ((Eq.refl (kx S)).trans hR).trans (km_step _ _ T).symm
  · rw [RelL, e]; exact ((Eq.refl (kx S)).trans hR).trans (km_step _ _ T).symm
theorem rk_turn {S S1 : sX} {T : sM} {k0 : Int32} {n n0 : Int64} {p0 : Int32} (hR : RelL S T) (D : (k0 = 0 ∧ (¬ p0 < 0 ∧ ¬ 8 ≤ p0) ∧ S1 = (r_X5_turn p0 S).2 ∧ n0 = (r_X5_turn p0 S).1.toInt64) ∨ (k0 = 1 ∧ (p0 < 0 ∨ 8 ≤ p0) ∧ S1 = S ∧ n0 = n)) : RelL S1 (r_X7_turn p0 T).2 := by
  rcases D with ⟨_, _, e, _⟩ | ⟨_, _, e, _⟩
  · rw [RelL, e]; exact ((kx_turn _ S).trans hR).trans (km_turn _ T).symm
  · rw [RelL, e]; exact ((Eq.refl (kx S)).trans hR).trans (km_turn _ T).symm
theorem rk_power {S S1 : sX} {T : sM} {k0 : Int32} {n n0 : Int64} {p0 p1 : Int32} (hR : RelL S T) (D : (k0 = 0 ∧ (¬ p0 < 0 ∧ ¬ 8 ≤ p0) ∧ (¬ p1 < 0 ∧ ¬ 8 ≤ p1) ∧ S1 = (r_X5_power p0 p1 S).2 ∧ n0 = (r_X5_power p0 p1 S).1.toInt64) ∨ (k0 = 1 ∧ (p0 < 0 ∨ 8 ≤ p0) ∧ S1 = S ∧ n0 = n) ∨ (k0 = 1 ∧ (¬ p0 < 0 ∧ ¬ 8 ≤ p0) ∧ (p1 < 0 ∨ 8 ≤ p1) ∧ S1 = S ∧ n0 = n)) : RelL S1 (r_X7_power p0 p1 T).2 := by
  rcases D with ⟨_, _, _, e, _⟩ | ⟨_, _, e, _⟩ | ⟨_, _, _, e, _⟩
  · rw [RelL, e]; exact ((kx_power _ _ S).trans hR).trans (km_power _ _ T).symm
  · rw [RelL, e]; exact ((Eq.refl (kx S)).trans hR).trans (km_power _ _ T).symm
  · rw [RelL, e]; exact ((Eq.refl (kx S)).trans hR).trans (km_power _ _ T).symm
theorem rk_lessen {S S1 : sX} {T : sM} {k0 : Int32} {n n0 : Int64} {p0 p1 : Int32} (hR : RelL S T) (D : (k0 = 0 ∧ (¬ p0 < 0 ∧ ¬ 8 ≤ p0) ∧ (¬ p1 < 0 ∧ ¬ 8 ≤ p1) ∧ S1 = (r_X5_lessen p0 p1 S).2 ∧ n0 = (r_X5_lessen p0 p1 S).1.toInt64) ∨ (k0 = 1 ∧ (p0 < 0 ∨ 8 ≤ p0) ∧ S1 = S ∧ n0 = n) ∨ (k0 = 1 ∧ (¬ p0 < 0 ∧ ¬ 8 ≤ p0) ∧ (p1 < 0 ∨ 8 ≤ p1) ∧ S1 = S ∧ n0 = n)) : RelL S1 (r_X7_lessen p0 p1 T).2 := by
  rcases D with ⟨_, _, _, e, _⟩ | ⟨_, _, e, _⟩ | ⟨_, _, _, e, _⟩
  · rw [RelL, e]; exact ((kx_lessen _ _ S).trans hR).trans (km_lessen _ _ T).symm
  · rw [RelL, e]; exact ((Eq.refl (kx S)).trans hR).trans (km_lessen _ _ T).symm
  · rw [RelL, e]; exact ((Eq.refl (kx S)).trans hR).trans (km_lessen _ _ T).symm
theorem rk_log {S S1 : sX} {T : sM} {k0 : Int32} {n n0 : Int64} {p0 p1 : Int32} (hR : RelL S T) (D : (k0 = 0 ∧ (¬ p0 < 0 ∧ ¬ 8 ≤ p0) ∧ (¬ p1 < 0 ∧ ¬ 8 ≤ p1) ∧ S1 = (r_X5_log p0 p1 S).2 ∧ n0 = (r_X5_log p0 p1 S).1.toInt64) ∨ (k0 = 1 ∧ (p0 < 0 ∨ 8 ≤ p0) ∧ S1 = S ∧ n0 = n) ∨ (k0 = 1 ∧ (¬ p0 < 0 ∧ ¬ 8 ≤ p0) ∧ (p1 < 0 ∨ 8 ≤ p1) ∧ S1 = S ∧ n0 = n)) : RelL S1 (r_X7_log p0 p1 T).2 := by
  rcases D with ⟨_, _, _, e, _⟩ | ⟨_, _, e, _⟩ | ⟨_, _, _, e, _⟩
  · rw [RelL, e]; exact ((kx_log _ _ S).trans hR).trans (km_log _ _ T).symm
  · rw [RelL, e]; exact ((Eq.refl (kx S)).trans hR).trans (km_log _ _ T).symm
  · rw [RelL, e]; exact ((Eq.refl (kx S)).trans hR).trans (km_log _ _ T).symm
theorem rk_all {S S1 : sX} {T : sM} {k0 : Int32} {n n0 : Int64} {p0 : Int32} (hR : RelL S T) (D : (k0 = 0 ∧ (¬ p0 < 1 ∧ ¬ 3 < p0) ∧ S1 = (r_X5_all p0 S).2 ∧ n0 = (r_X5_all p0 S).1.toInt64) ∨ (k0 = 1 ∧ (p0 < 1 ∨ 3 < p0) ∧ S1 = S ∧ n0 = n)) : RelL S1 (r_X7_all p0 T).2 := by
  rcases D with ⟨_, _, e, _⟩ | ⟨_, _, e, _⟩
  · rw [RelL, e]; exact ((kx_all _ S).trans hR).trans (km_all _ T).symm
  · rw [RelL, e]; exact ((Eq.refl (kx S)).trans hR).trans (km_all _ T).symm
theorem rk_greater {S S1 : sX} {T : sM} {k0 : Int32} {n n0 : Int64} {p0 p1 p2 : Int32} (hR : RelL S T) (D : (k0 = 0 ∧ (¬ p0 < 0 ∧ ¬ 8 ≤ p0) ∧ (¬ p1 < 0 ∧ ¬ 8 ≤ p1) ∧ (¬ p2 < 0 ∧ ¬ 8 ≤ p2) ∧ S1 = (r_X5_greater p0 p1 p2 S).2 ∧ n0 = (r_X5_greater p0 p1 p2 S).1.toInt64) ∨ (k0 = 1 ∧ (p0 < 0 ∨ 8 ≤ p0) ∧ S1 = S ∧ n0 = n) ∨ (k0 = 1 ∧ (¬ p0 < 0 ∧ ¬ 8 ≤ p0) ∧ (p1 < 0 ∨ 8 ≤ p1) ∧ S1 = S ∧ n0 = n) ∨ (k0 = 1 ∧ (¬ p0 < 0 ∧ ¬ 8 ≤ p0) ∧ (¬ p1 < 0 ∧ ¬ 8 ≤ p1) ∧ (p2 < 0 ∨ 8 ≤ p2) ∧ S1 = S ∧ n0 = n)) : RelL S1 (r_X7_greater p0 p1 p2 T).2 := by
  rcases D with ⟨_, _, _, _, e, _⟩ | ⟨_, _, e, _⟩ | ⟨_, _, _, e, _⟩ | ⟨_, _, _, _, e, _⟩
  · rw [RelL, e]; exact ((kx_greater _ _ _ S).trans hR).trans (km_greater _ _ _ T).symm
  · rw [RelL, e]; exact ((Eq.refl (kx S)).trans hR).trans (km_greater _ _ _ T).symm
  · rw [RelL, e]; exact ((Eq.refl (kx S)).trans hR).trans (km_greater _ _ _ T).symm
  · rw [RelL, e]; exact ((Eq.refl (kx S)).trans hR).trans (km_greater _ _ _ T).symm
theorem rk_lesser {S S1 : sX} {T : sM} {k0 : Int32} {n n0 : Int64} {p0 p1 p2 : Int32} (hR : RelL S T) (D : (k0 = 0 ∧ (¬ p0 < 0 ∧ ¬ 8 ≤ p0) ∧ (¬ p1 < 0 ∧ ¬ 8 ≤ p1) ∧ (¬ p2 < 0 ∧ ¬ 8 ≤ p2) ∧ S1 = (r_X5_lesser p0 p1 p2 S).2 ∧ n0 = (r_X5_lesser p0 p1 p2 S).1.toInt64) ∨ (k0 = 1 ∧ (p0 < 0 ∨ 8 ≤ p0) ∧ S1 = S ∧ n0 = n) ∨ (k0 = 1 ∧ (¬ p0 < 0 ∧ ¬ 8 ≤ p0) ∧ (p1 < 0 ∨ 8 ≤ p1) ∧ S1 = S ∧ n0 = n) ∨ (k0 = 1 ∧ (¬ p0 < 0 ∧ ¬ 8 ≤ p0) ∧ (¬ p1 < 0 ∧ ¬ 8 ≤ p1) ∧ (p2 < 0 ∨ 8 ≤ p2) ∧ S1 = S ∧ n0 = n)) : RelL S1 (r_X7_lesser p0 p1 p2 T).2 := by
  rcases D with ⟨_, _, _, _, e, _⟩ | ⟨_, _, e, _⟩ | ⟨_, _, _, e, _⟩ | ⟨_, _, _, _, e, _⟩
  · rw [RelL, e]; exact ((kx_lesser _ _ _ S).trans hR).trans (km_lesser _ _ _ T).symm
  · rw [RelL, e]; exact ((Eq.refl (kx S)).trans hR).trans (km_lesser _ _ _ T).symm
  · rw [RelL, e]; exact ((Eq.refl (kx S)).trans hR).trans (km_lesser _ _ _ T).symm
  · rw [RelL, e]; exact ((Eq.refl (kx S)).trans hR).trans (km_lesser _ _ _ T).symm
theorem rk_end {S S1 : sX} {T : sM} {k0 : Int32} {n n0 : Int64} {p0 p1 : Int32} (hR : RelL S T) (D : (k0 = 0 ∧ (¬ p1 < 0 ∧ ¬ 8 ≤ p1) ∧ S1 = (r_X5_end p0 p1 S).2 ∧ n0 = (r_X5_end p0 p1 S).1.toInt64) ∨ (k0 = 1 ∧ (p1 < 0 ∨ 8 ≤ p1) ∧ S1 = S ∧ n0 = n)) : RelL S1 (r_X7_end p0 p1 T).2 := by
  rcases D with ⟨_, _, e, _⟩ | ⟨_, _, e, _⟩
  · rw [RelL, e]; exact ((kx_end _ _ S).trans hR).trans (km_end _ _ T).symm
  · rw [RelL, e]; exact ((Eq.refl (kx S)).trans hR).trans (km_end _ _ T).symm
theorem rk_sort {S : sX} {T : sM} (hR : RelL S T) : RelL (r_X5_sort S).2 (r_X7_sort T).2 := ((kx_sort S).trans hR).trans (km_sort T).symm
theorem rk_kind {S S1 : sX} {T : sM} {k0 : Int32} {n n0 : Int64} {p0 : Int32} (hR : RelL S T) (D : (k0 = 0 ∧ (¬ p0 < 0 ∧ ¬ 8 ≤ p0) ∧ S1 = S ∧ n0 = (r_X5_kind p0 S).toInt64) ∨ (k0 = 1 ∧ (p0 < 0 ∨ 8 ≤ p0) ∧ S1 = S ∧ n0 = n)) : RelL S1 (r_X7_kind p0 T).2 := by
  rcases D with ⟨_, _, e, _⟩ | ⟨_, _, e, _⟩
  · rw [RelL, e]; exact ((Eq.refl (kx S)).trans hR).trans (km_o (tu_kind _ T)).symm
  · rw [RelL, e]; exact ((Eq.refl (kx S)).trans hR).trans (km_o (tu_kind _ T)).symm
theorem rk_of {S S1 : sX} {T : sM} {k0 : Int32} {n n0 : Int64} {p0 : Int32} (hR : RelL S T) (D : (k0 = 0 ∧ (¬ p0 < 0 ∧ ¬ 8 ≤ p0) ∧ S1 = S ∧ n0 = (r_X5_of p0 S).toInt64) ∨ (k0 = 1 ∧ (p0 < 0 ∨ 8 ≤ p0) ∧ S1 = S ∧ n0 = n)) : RelL S1 (r_X7_of p0 T).2 := by
  rcases D with ⟨_, _, e, _⟩ | ⟨_, _, e, _⟩
  · rw [RelL, e]; exact ((Eq.refl (kx S)).trans hR).trans (km_o (tu_of _ T)).symm
  · rw [RelL, e]; exact ((Eq.refl (kx S)).trans hR).trans (km_o (tu_of _ T)).symm
theorem rk_isBelow {S S1 : sX} {T : sM} {k0 : Int32} {n n0 : Int64} {p0 : Int32} (hR : RelL S T) (D : (k0 = 0 ∧ (¬ p0 < 0 ∧ ¬ 8 ≤ p0) ∧ S1 = S ∧ n0 = if (r_X5_isBelow p0 S) = 0 then 0 else 1) ∨ (k0 = 1 ∧ (p0 < 0 ∨ 8 ≤ p0) ∧ S1 = S ∧ n0 = n)) : RelL S1 (r_X7_isBelow p0 T).2 := by
  rcases D with ⟨_, _, e, _⟩ | ⟨_, _, e, _⟩
  · rw [RelL, e]; exact ((Eq.refl (kx S)).trans hR).trans (km_o (tu_isBelow _ T)).symm
  · rw [RelL, e]; exact ((Eq.refl (kx S)).trans hR).trans (km_o (tu_isBelow _ T)).symm
theorem rk_isZero {S S1 : sX} {T : sM} {k0 : Int32} {n n0 : Int64} {p0 : Int32} (hR : RelL S T) (D : (k0 = 0 ∧ (¬ p0 < 0 ∧ ¬ 8 ≤ p0) ∧ S1 = S ∧ n0 = if (r_X5_isZero p0 S) = 0 then 0 else 1) ∨ (k0 = 1 ∧ (p0 < 0 ∨ 8 ≤ p0) ∧ S1 = S ∧ n0 = n)) : RelL S1 (r_X7_isZero p0 T).2 := by
  rcases D with ⟨_, _, e, _⟩ | ⟨_, _, e, _⟩
  · rw [RelL, e]; exact ((Eq.refl (kx S)).trans hR).trans (km_o (tu_isZero _ T)).symm
  · rw [RelL, e]; exact ((Eq.refl (kx S)).trans hR).trans (km_o (tu_isZero _ T)).symm
theorem rk_isEndless {S S1 : sX} {T : sM} {k0 : Int32} {n n0 : Int64} {p0 : Int32} (hR : RelL S T) (D : (k0 = 0 ∧ (¬ p0 < 0 ∧ ¬ 8 ≤ p0) ∧ S1 = S ∧ n0 = if (r_X5_isEndless p0 S) = 0 then 0 else 1) ∨ (k0 = 1 ∧ (p0 < 0 ∨ 8 ≤ p0) ∧ S1 = S ∧ n0 = n)) : RelL S1 (r_X7_isEndless p0 T).2 := by
  rcases D with ⟨_, _, e, _⟩ | ⟨_, _, e, _⟩
  · rw [RelL, e]; exact ((Eq.refl (kx S)).trans hR).trans (km_o (tu_isEndless _ T)).symm
  · rw [RelL, e]; exact ((Eq.refl (kx S)).trans hR).trans (km_o (tu_isEndless _ T)).symm
theorem rk_whole {S S1 : sX} {T : sM} {k0 : Int32} {n n0 : Int64} {p0 p1 : Int32} (hR : RelL S T) (D : (k0 = 0 ∧ (¬ p0 < 0 ∧ ¬ 8 ≤ p0) ∧ (¬ p1 < -62 ∧ ¬ 90 < p1) ∧ (¬ f_X2_hasWhole (S.1 p0.toNatClampNeg) = 0) ∧ (¬ (f_X1_roundedDown (S.2.1 p0.toNatClampNeg) p1) < -2147483648 ∧ ¬ 2147483647 < (f_X1_roundedDown (S.2.1 p0.toNatClampNeg) p1)) ∧ S1 = S ∧ n0 = (r_X5_whole p0 p1 S).toInt64) ∨ (k0 = 1 ∧ (p0 < 0 ∨ 8 ≤ p0) ∧ S1 = S ∧ n0 = n) ∨ (k0 = 2 ∧ (¬ p0 < 0 ∧ ¬ 8 ≤ p0) ∧ (p1 < -62 ∨ 90 < p1) ∧ S1 = S ∧ n0 = n) ∨ (k0 = 3 ∧ (¬ p0 < 0 ∧ ¬ 8 ≤ p0) ∧ (¬ p1 < -62 ∧ ¬ 90 < p1) ∧ (f_X2_hasWhole (S.1 p0.toNatClampNeg) = 0) ∧ S1 = S ∧ n0 = n) ∨ (k0 = 3 ∧ (¬ p0 < 0 ∧ ¬ 8 ≤ p0) ∧ (¬ p1 < -62 ∧ ¬ 90 < p1) ∧ (¬ f_X2_hasWhole (S.1 p0.toNatClampNeg) = 0) ∧ ((f_X1_roundedDown (S.2.1 p0.toNatClampNeg) p1) < -2147483648 ∨ 2147483647 < (f_X1_roundedDown (S.2.1 p0.toNatClampNeg) p1)) ∧ S1 = S ∧ n0 = n)) : RelL S1 (r_X7_whole p0 p1 T).2 := by
  rcases D with ⟨_, _, _, _, _, e, _⟩ | ⟨_, _, e, _⟩ | ⟨_, _, _, e, _⟩ | ⟨_, _, _, _, e, _⟩ | ⟨_, _, _, _, _, e, _⟩
  · rw [RelL, e]; exact ((Eq.refl (kx S)).trans hR).trans (km_o (tu_whole _ _ T)).symm
  · rw [RelL, e]; exact ((Eq.refl (kx S)).trans hR).trans (km_o (tu_whole _ _ T)).symm
  · rw [RelL, e]; exact ((Eq.refl (kx S)).trans hR).trans (km_o (tu_whole _ _ T)).symm
  · rw [RelL, e]; exact ((Eq.refl (kx S)).trans hR).trans (km_o (tu_whole _ _ T)).symm
  · rw [RelL, e]; exact ((Eq.refl (kx S)).trans hR).trans (km_o (tu_whole _ _ T)).symm
theorem rk_height {S S1 : sX} {T : sM} {k0 : Int32} {n n0 : Int64} {p0 : Int32} (hR : RelL S T) (D : (k0 = 0 ∧ (¬ p0 < 0 ∧ ¬ 8 ≤ p0) ∧ (¬ f_X2_hasHeight (S.1 p0.toNatClampNeg) = 0) ∧ S1 = S ∧ n0 = (r_X5_height p0 S).toInt64) ∨ (k0 = 1 ∧ (p0 < 0 ∨ 8 ≤ p0) ∧ S1 = S ∧ n0 = n) ∨ (k0 = 2 ∧ (¬ p0 < 0 ∧ ¬ 8 ≤ p0) ∧ (f_X2_hasHeight (S.1 p0.toNatClampNeg) = 0) ∧ S1 = S ∧ n0 = n)) : RelL S1 (r_X7_height p0 T).2 := by
  rcases D with ⟨_, _, _, e, _⟩ | ⟨_, _, e, _⟩ | ⟨_, _, _, e, _⟩
  · rw [RelL, e]; exact ((Eq.refl (kx S)).trans hR).trans (km_o (tu_height _ T)).symm
  · rw [RelL, e]; exact ((Eq.refl (kx S)).trans hR).trans (km_o (tu_height _ T)).symm
  · rw [RelL, e]; exact ((Eq.refl (kx S)).trans hR).trans (km_o (tu_height _ T)).symm
theorem rk_digits {S S1 : sX} {T : sM} {k0 : Int32} {n n0 : Int64} {p0 : Int32} (hR : RelL S T) (D : (k0 = 0 ∧ (¬ p0 < 0 ∧ ¬ 8 ≤ p0) ∧ (¬ f_X2_hasHeight (S.1 p0.toNatClampNeg) = 0) ∧ S1 = S ∧ n0 = (r_X5_digits p0 S).toInt64) ∨ (k0 = 1 ∧ (p0 < 0 ∨ 8 ≤ p0) ∧ S1 = S ∧ n0 = n) ∨ (k0 = 2 ∧ (¬ p0 < 0 ∧ ¬ 8 ≤ p0) ∧ (f_X2_hasHeight (S.1 p0.toNatClampNeg) = 0) ∧ S1 = S ∧ n0 = n)) : RelL S1 (r_X7_digits p0 T).2 := by
  rcases D with ⟨_, _, _, e, _⟩ | ⟨_, _, e, _⟩ | ⟨_, _, _, e, _⟩
  · rw [RelL, e]; exact ((Eq.refl (kx S)).trans hR).trans (km_o (tu_digits _ T)).symm
  · rw [RelL, e]; exact ((Eq.refl (kx S)).trans hR).trans (km_o (tu_digits _ T)).symm
  · rw [RelL, e]; exact ((Eq.refl (kx S)).trans hR).trans (km_o (tu_digits _ T)).symm
theorem rk_upper {S S1 : sX} {T : sM} {k0 : Int32} {n n0 : Int64} {p0 : Int32} (hR : RelL S T) (D : (k0 = 0 ∧ (¬ p0 < 0 ∧ ¬ 8 ≤ p0) ∧ (¬ f_X2_hasToldDigits (S.1 p0.toNatClampNeg) = 0) ∧ S1 = S ∧ n0 = (r_X5_upper p0 S).toInt64) ∨ (k0 = 1 ∧ (p0 < 0 ∨ 8 ≤ p0) ∧ S1 = S ∧ n0 = n) ∨ (k0 = 2 ∧ (¬ p0 < 0 ∧ ¬ 8 ≤ p0) ∧ (f_X2_hasToldDigits (S.1 p0.toNatClampNeg) = 0) ∧ S1 = S ∧ n0 = n)) : RelL S1 (r_X7_upper p0 T).2 := by
  rcases D with ⟨_, _, _, e, _⟩ | ⟨_, _, e, _⟩ | ⟨_, _, _, e, _⟩
  · rw [RelL, e]; exact ((Eq.refl (kx S)).trans hR).trans (km_o (tu_upper _ T)).symm
  · rw [RelL, e]; exact ((Eq.refl (kx S)).trans hR).trans (km_o (tu_upper _ T)).symm
  · rw [RelL, e]; exact ((Eq.refl (kx S)).trans hR).trans (km_o (tu_upper _ T)).symm
theorem rk_lower {S S1 : sX} {T : sM} {k0 : Int32} {n n0 : Int64} {p0 : Int32} (hR : RelL S T) (D : (k0 = 0 ∧ (¬ p0 < 0 ∧ ¬ 8 ≤ p0) ∧ (¬ f_X2_hasToldDigits (S.1 p0.toNatClampNeg) = 0) ∧ S1 = S ∧ n0 = (r_X5_lower p0 S).toInt64) ∨ (k0 = 1 ∧ (p0 < 0 ∨ 8 ≤ p0) ∧ S1 = S ∧ n0 = n) ∨ (k0 = 2 ∧ (¬ p0 < 0 ∧ ¬ 8 ≤ p0) ∧ (f_X2_hasToldDigits (S.1 p0.toNatClampNeg) = 0) ∧ S1 = S ∧ n0 = n)) : RelL S1 (r_X7_lower p0 T).2 := by
  rcases D with ⟨_, _, _, e, _⟩ | ⟨_, _, e, _⟩ | ⟨_, _, _, e, _⟩
  · rw [RelL, e]; exact ((Eq.refl (kx S)).trans hR).trans (km_o (tu_lower _ T)).symm
  · rw [RelL, e]; exact ((Eq.refl (kx S)).trans hR).trans (km_o (tu_lower _ T)).symm
  · rw [RelL, e]; exact ((Eq.refl (kx S)).trans hR).trans (km_o (tu_lower _ T)).symm
theorem rk_text {S : sX} {T : sM} {p0 : Int32} (hR : RelL S T) : RelL S (r_X7_isRefused (f_X7_isNoCell p0) 0 T).2 := hR.trans (km_isRefused _ _ T).symm
theorem rk_order {S S1 : sX} {T : sM} {k0 : Int32} {n n0 : Int64} {p0 p1 : Int32} (hR : RelL S T) (D : (k0 = 0 ∧ (¬ p0 < 0 ∧ ¬ 8 ≤ p0) ∧ (¬ p1 < 0 ∧ ¬ 8 ≤ p1) ∧ S1 = S ∧ n0 = (r_X5_order p0 p1 S).toInt64) ∨ (k0 = 1 ∧ (p0 < 0 ∨ 8 ≤ p0) ∧ S1 = S ∧ n0 = n) ∨ (k0 = 1 ∧ (¬ p0 < 0 ∧ ¬ 8 ≤ p0) ∧ (p1 < 0 ∨ 8 ≤ p1) ∧ S1 = S ∧ n0 = n)) : RelL S1 (r_X7_order p0 p1 T).2 := by
  rcases D with ⟨_, _, _, e, _⟩ | ⟨_, _, e, _⟩ | ⟨_, _, _, e, _⟩
  · rw [RelL, e]; exact ((Eq.refl (kx S)).trans hR).trans (km_o (tu_order _ _ T)).symm
  · rw [RelL, e]; exact ((Eq.refl (kx S)).trans hR).trans (km_o (tu_order _ _ T)).symm
  · rw [RelL, e]; exact ((Eq.refl (kx S)).trans hR).trans (km_o (tu_order _ _ T)).symm
theorem rk_isAlike {S S1 : sX} {T : sM} {k0 : Int32} {n n0 : Int64} {p0 p1 : Int32} (hR : RelL S T) (D : (k0 = 0 ∧ (¬ p0 < 0 ∧ ¬ 8 ≤ p0) ∧ (¬ p1 < 0 ∧ ¬ 8 ≤ p1) ∧ S1 = S ∧ n0 = if (r_X5_isAlike p0 p1 S) = 0 then 0 else 1) ∨ (k0 = 1 ∧ (p0 < 0 ∨ 8 ≤ p0) ∧ S1 = S ∧ n0 = n) ∨ (k0 = 1 ∧ (¬ p0 < 0 ∧ ¬ 8 ≤ p0) ∧ (p1 < 0 ∨ 8 ≤ p1) ∧ S1 = S ∧ n0 = n)) : RelL S1 (r_X7_isAlike p0 p1 T).2 := by
  rcases D with ⟨_, _, _, e, _⟩ | ⟨_, _, e, _⟩ | ⟨_, _, _, e, _⟩
  · rw [RelL, e]; exact ((Eq.refl (kx S)).trans hR).trans (km_o (tu_isAlike _ _ T)).symm
  · rw [RelL, e]; exact ((Eq.refl (kx S)).trans hR).trans (km_o (tu_isAlike _ _ T)).symm
  · rw [RelL, e]; exact ((Eq.refl (kx S)).trans hR).trans (km_o (tu_isAlike _ _ T)).symm
theorem rk_isNear {S S1 : sX} {T : sM} {k0 : Int32} {n n0 : Int64} {p0 p1 : Int32} (hR : RelL S T) (D : (k0 = 0 ∧ (¬ p0 < 0 ∧ ¬ 8 ≤ p0) ∧ (¬ p1 < 0 ∧ ¬ 8 ≤ p1) ∧ S1 = S ∧ n0 = if (r_X5_isNear p0 p1 S) = 0 then 0 else 1) ∨ (k0 = 1 ∧ (p0 < 0 ∨ 8 ≤ p0) ∧ S1 = S ∧ n0 = n) ∨ (k0 = 1 ∧ (¬ p0 < 0 ∧ ¬ 8 ≤ p0) ∧ (p1 < 0 ∨ 8 ≤ p1) ∧ S1 = S ∧ n0 = n)) : RelL S1 (r_X7_isNear p0 p1 T).2 := by
  rcases D with ⟨_, _, _, e, _⟩ | ⟨_, _, e, _⟩ | ⟨_, _, _, e, _⟩
  · rw [RelL, e]; exact ((Eq.refl (kx S)).trans hR).trans (km_o (tu_isNear _ _ T)).symm
  · rw [RelL, e]; exact ((Eq.refl (kx S)).trans hR).trans (km_o (tu_isNear _ _ T)).symm
  · rw [RelL, e]; exact ((Eq.refl (kx S)).trans hR).trans (km_o (tu_isNear _ _ T)).symm
theorem rk_most {S S1 : sX} {T : sM} {k0 : Int32} {n n0 : Int64} {p0 p1 : Int32} (hR : RelL S T) (D : (k0 = 0 ∧ (¬ p0 < 0 ∧ ¬ 8 ≤ p0) ∧ (¬ p1 < 0 ∧ ¬ 8 ≤ p1) ∧ (¬ f_X2_areNear (S.1 p0.toNatClampNeg) (S.1 p1.toNatClampNeg) = 0) ∧ S1 = S ∧ n0 = (r_X5_most p0 p1 S).toInt64) ∨ (k0 = 1 ∧ (p0 < 0 ∨ 8 ≤ p0) ∧ S1 = S ∧ n0 = n) ∨ (k0 = 1 ∧ (¬ p0 < 0 ∧ ¬ 8 ≤ p0) ∧ (p1 < 0 ∨ 8 ≤ p1) ∧ S1 = S ∧ n0 = n) ∨ (k0 = 2 ∧ (¬ p0 < 0 ∧ ¬ 8 ≤ p0) ∧ (¬ p1 < 0 ∧ ¬ 8 ≤ p1) ∧ (f_X2_areNear (S.1 p0.toNatClampNeg) (S.1 p1.toNatClampNeg) = 0) ∧ S1 = S ∧ n0 = n)) : RelL S1 (r_X7_most p0 p1 T).2 := by
  rcases D with ⟨_, _, _, _, e, _⟩ | ⟨_, _, e, _⟩ | ⟨_, _, _, e, _⟩ | ⟨_, _, _, _, e, _⟩
  · rw [RelL, e]; exact ((Eq.refl (kx S)).trans hR).trans (km_o (tu_most _ _ T)).symm
  · rw [RelL, e]; exact ((Eq.refl (kx S)).trans hR).trans (km_o (tu_most _ _ T)).symm
  · rw [RelL, e]; exact ((Eq.refl (kx S)).trans hR).trans (km_o (tu_most _ _ T)).symm
  · rw [RelL, e]; exact ((Eq.refl (kx S)).trans hR).trans (km_o (tu_most _ _ T)).symm
theorem rk_isWithin {S S1 : sX} {T : sM} {k0 : Int32} {n n0 : Int64} {p0 p1 : Int32} (hR : RelL S T) (D : (k0 = 0 ∧ (¬ p0 < 0 ∧ ¬ 8 ≤ p0) ∧ (¬ p1 < 0 ∧ ¬ 8 ≤ p1) ∧ (¬ f_X2_areNear (S.1 p0.toNatClampNeg) (S.1 p1.toNatClampNeg) = 0) ∧ S1 = S ∧ n0 = if (r_X5_isWithin p0 p1 S) = 0 then 0 else 1) ∨ (k0 = 1 ∧ (p0 < 0 ∨ 8 ≤ p0) ∧ S1 = S ∧ n0 = n) ∨ (k0 = 1 ∧ (¬ p0 < 0 ∧ ¬ 8 ≤ p0) ∧ (p1 < 0 ∨ 8 ≤ p1) ∧ S1 = S ∧ n0 = n) ∨ (k0 = 2 ∧ (¬ p0 < 0 ∧ ¬ 8 ≤ p0) ∧ (¬ p1 < 0 ∧ ¬ 8 ≤ p1) ∧ (f_X2_areNear (S.1 p0.toNatClampNeg) (S.1 p1.toNatClampNeg) = 0) ∧ S1 = S ∧ n0 = n)) : RelL S1 (r_X7_isWithin p0 p1 T).2 := by
  rcases D with ⟨_, _, _, _, e, _⟩ | ⟨_, _, e, _⟩ | ⟨_, _, _, e, _⟩ | ⟨_, _, _, _, e, _⟩
  · rw [RelL, e]; exact ((Eq.refl (kx S)).trans hR).trans (km_o (tu_isWithin _ _ T)).symm
  · rw [RelL, e]; exact ((Eq.refl (kx S)).trans hR).trans (km_o (tu_isWithin _ _ T)).symm
  · rw [RelL, e]; exact ((Eq.refl (kx S)).trans hR).trans (km_o (tu_isWithin _ _ T)).symm
  · rw [RelL, e]; exact ((Eq.refl (kx S)).trans hR).trans (km_o (tu_isWithin _ _ T)).symm
theorem rk_find {S S1 : sX} {T : sM} {k0 : Int32} {n n0 : Int64} {p0 p1 : Int32} (hR : RelL S T) (D : (k0 = 0 ∧ (¬ p0 < 0 ∧ ¬ 8 ≤ p0) ∧ S1 = S ∧ n0 = (r_X5_find p0 p1 S).toInt64) ∨ (k0 = 1 ∧ (p0 < 0 ∨ 8 ≤ p0) ∧ S1 = S ∧ n0 = n)) : RelL S1 (r_X7_find p0 p1 T).2 := by
  rcases D with ⟨_, _, e, _⟩ | ⟨_, _, e, _⟩
  · rw [RelL, e]; exact ((Eq.refl (kx S)).trans hR).trans (km_o (tu_find _ _ T)).symm
  · rw [RelL, e]; exact ((Eq.refl (kx S)).trans hR).trans (km_o (tu_find _ _ T)).symm
theorem rk_rank {S S1 : sX} {T : sM} {k0 : Int32} {n n0 : Int64} {p0 : Int32} (hR : RelL S T) (D : (k0 = 0 ∧ (¬ p0 < 0 ∧ ¬ 8 ≤ p0) ∧ S1 = S ∧ n0 = (r_X5_rank p0 S).toInt64) ∨ (k0 = 1 ∧ (p0 < 0 ∨ 8 ≤ p0) ∧ S1 = S ∧ n0 = n)) : RelL S1 (r_X7_rank p0 T).2 := by
  rcases D with ⟨_, _, e, _⟩ | ⟨_, _, e, _⟩
  · rw [RelL, e]; exact ((Eq.refl (kx S)).trans hR).trans (km_o (tu_rank _ T)).symm
  · rw [RelL, e]; exact ((Eq.refl (kx S)).trans hR).trans (km_o (tu_rank _ T)).symm
theorem rk_before {S S1 : sX} {T : sM} {k0 : Int32} {n n0 : Int64} {p0 p1 : Int32} (hR : RelL S T) (D : (k0 = 0 ∧ (¬ p1 < 0 ∧ ¬ 8 ≤ p1) ∧ (¬ p0 < 0 ∧ ¬ 3 < p0) ∧ S1 = S ∧ n0 = (r_X5_before p0 p1 S).toInt64) ∨ (k0 = 1 ∧ (p1 < 0 ∨ 8 ≤ p1) ∧ S1 = S ∧ n0 = n) ∨ (k0 = 2 ∧ (¬ p1 < 0 ∧ ¬ 8 ≤ p1) ∧ (p0 < 0 ∨ 3 < p0) ∧ S1 = S ∧ n0 = n)) : RelL S1 (r_X7_before p0 p1 T).2 := by
  rcases D with ⟨_, _, _, e, _⟩ | ⟨_, _, e, _⟩ | ⟨_, _, _, e, _⟩
  · rw [RelL, e]; exact ((Eq.refl (kx S)).trans hR).trans (km_o (tu_before _ _ T)).symm
  · rw [RelL, e]; exact ((Eq.refl (kx S)).trans hR).trans (km_o (tu_before _ _ T)).symm
  · rw [RelL, e]; exact ((Eq.refl (kx S)).trans hR).trans (km_o (tu_before _ _ T)).symm
theorem rk_answer {S S1 : sX} {T : sM} {k0 : Int32} {n n0 : Int64} {p0 p1 p2 : Int32} (hR : RelL S T) (D : (k0 = 0 ∧ (¬ p0 < 1 ∧ ¬ 3 < p0) ∧ (¬ p1 < (f_X4_firstQ p0) ∧ ¬ (f_X4_lastQ p0) < p1) ∧ (¬ p2 < -62 ∧ ¬ 90 < p2) ∧ (¬ (f_X1_roundedDown (f_X4_digitsAt p0 p1) p2) < -2147483648 ∧ ¬ 2147483647 < (f_X1_roundedDown (f_X4_digitsAt p0 p1) p2)) ∧ S1 = S ∧ n0 = (r_X5_answer p0 p1 p2 S).toInt64) ∨ (k0 = 1 ∧ (p0 < 1 ∨ 3 < p0) ∧ S1 = S ∧ n0 = n) ∨ (k0 = 1 ∧ (¬ p0 < 1 ∧ ¬ 3 < p0) ∧ (p1 < (f_X4_firstQ p0) ∨ (f_X4_lastQ p0) < p1) ∧ S1 = S ∧ n0 = n) ∨ (k0 = 1 ∧ (¬ p0 < 1 ∧ ¬ 3 < p0) ∧ (¬ p1 < (f_X4_firstQ p0) ∧ ¬ (f_X4_lastQ p0) < p1) ∧ (p2 < -62 ∨ 90 < p2) ∧ S1 = S ∧ n0 = n) ∨ (k0 = 2 ∧ (¬ p0 < 1 ∧ ¬ 3 < p0) ∧ (¬ p1 < (f_X4_firstQ p0) ∧ ¬ (f_X4_lastQ p0) < p1) ∧ (¬ p2 < -62 ∧ ¬ 90 < p2) ∧ ((f_X1_roundedDown (f_X4_digitsAt p0 p1) p2) < -2147483648 ∨ 2147483647 < (f_X1_roundedDown (f_X4_digitsAt p0 p1) p2)) ∧ S1 = S ∧ n0 = n)) : RelL S1 (r_X7_answer p0 p1 p2 T).2 := by
  rcases D with ⟨_, _, _, _, _, e, _⟩ | ⟨_, _, e, _⟩ | ⟨_, _, _, e, _⟩ | ⟨_, _, _, _, e, _⟩ | ⟨_, _, _, _, _, e, _⟩
  · rw [RelL, e]; exact ((Eq.refl (kx S)).trans hR).trans (km_o (tu_answer _ _ _ T)).symm
  · rw [RelL, e]; exact ((Eq.refl (kx S)).trans hR).trans (km_o (tu_answer _ _ _ T)).symm
  · rw [RelL, e]; exact ((Eq.refl (kx S)).trans hR).trans (km_o (tu_answer _ _ _ T)).symm
  · rw [RelL, e]; exact ((Eq.refl (kx S)).trans hR).trans (km_o (tu_answer _ _ _ T)).symm
  · rw [RelL, e]; exact ((Eq.refl (kx S)).trans hR).trans (km_o (tu_answer _ _ _ T)).symm
theorem rk_below {S S1 : sX} {T : sM} {k0 : Int32} {n n0 : Int64} {p0 p1 p2 : Int32} (hR : RelL S T) (D : (k0 = 0 ∧ (¬ p0 < 0 ∧ ¬ 3 < p0) ∧ (¬ p2 < -62 ∧ ¬ 90 < p2) ∧ S1 = S ∧ n0 = (r_X5_below p0 p1 p2 S).toInt64) ∨ (k0 = 1 ∧ (p0 < 0 ∨ 3 < p0) ∧ S1 = S ∧ n0 = n) ∨ (k0 = 1 ∧ (¬ p0 < 0 ∧ ¬ 3 < p0) ∧ (p2 < -62 ∨ 90 < p2) ∧ S1 = S ∧ n0 = n)) : RelL S1 (r_X7_below p0 p1 p2 T).2 := by
  rcases D with ⟨_, _, _, e, _⟩ | ⟨_, _, e, _⟩ | ⟨_, _, _, e, _⟩
  · rw [RelL, e]; exact ((Eq.refl (kx S)).trans hR).trans (km_o (tu_below _ _ _ T)).symm
  · rw [RelL, e]; exact ((Eq.refl (kx S)).trans hR).trans (km_o (tu_below _ _ _ T)).symm
  · rw [RelL, e]; exact ((Eq.refl (kx S)).trans hR).trans (km_o (tu_below _ _ _ T)).symm
theorem rk_rises {S S1 : sX} {T : sM} {k0 : Int32} {n n0 : Int64} {p0 p1 p2 : Int32} (hR : RelL S T) (D : (k0 = 0 ∧ (¬ p0 < 0 ∧ ¬ 3 < p0) ∧ (¬ p1 < (f_X4_firstQ p0) ∧ ¬ (f_X4_lastQ p0) < p1) ∧ (¬ p2 < p1 ∧ ¬ (f_X4_lastQ p0) < p2) ∧ S1 = S ∧ n0 = if (r_X5_rises p0 p1 p2 S) = 0 then 0 else 1) ∨ (k0 = 1 ∧ (p0 < 0 ∨ 3 < p0) ∧ S1 = S ∧ n0 = n) ∨ (k0 = 1 ∧ (¬ p0 < 0 ∧ ¬ 3 < p0) ∧ (p1 < (f_X4_firstQ p0) ∨ (f_X4_lastQ p0) < p1) ∧ S1 = S ∧ n0 = n) ∨ (k0 = 1 ∧ (¬ p0 < 0 ∧ ¬ 3 < p0) ∧ (¬ p1 < (f_X4_firstQ p0) ∧ ¬ (f_X4_lastQ p0) < p1) ∧ (p2 < p1 ∨ (f_X4_lastQ p0) < p2) ∧ S1 = S ∧ n0 = n)) : RelL S1 (r_X7_rises p0 p1 p2 T).2 := by
  rcases D with ⟨_, _, _, _, e, _⟩ | ⟨_, _, e, _⟩ | ⟨_, _, _, e, _⟩ | ⟨_, _, _, _, e, _⟩
  · rw [RelL, e]; exact ((Eq.refl (kx S)).trans hR).trans (km_o (tu_rises _ _ _ T)).symm
  · rw [RelL, e]; exact ((Eq.refl (kx S)).trans hR).trans (km_o (tu_rises _ _ _ T)).symm
  · rw [RelL, e]; exact ((Eq.refl (kx S)).trans hR).trans (km_o (tu_rises _ _ _ T)).symm
  · rw [RelL, e]; exact ((Eq.refl (kx S)).trans hR).trans (km_o (tu_rises _ _ _ T)).symm
theorem rk_between {S S1 : sX} {T : sM} {k0 : Int32} {n n0 : Int64} {p0 : Int32} (hR : RelL S T) (D : (k0 = 0 ∧ (¬ p0 < (f_X4_firstQ 2) ∧ ¬ (f_X4_lastQ 2) < p0) ∧ S1 = S ∧ n0 = if (r_X5_between p0 S) = 0 then 0 else 1) ∨ (k0 = 1 ∧ (p0 < (f_X4_firstQ 2) ∨ (f_X4_lastQ 2) < p0) ∧ S1 = S ∧ n0 = n)) : RelL S1 (r_X7_between p0 T).2 := by
  rcases D with ⟨_, _, e, _⟩ | ⟨_, _, e, _⟩
  · rw [RelL, e]; exact ((Eq.refl (kx S)).trans hR).trans (km_o (tu_between _ T)).symm
  · rw [RelL, e]; exact ((Eq.refl (kx S)).trans hR).trans (km_o (tu_between _ T)).symm
theorem rk_lies {S S1 : sX} {T : sM} {k0 : Int32} {n n0 : Int64} {p0 : Int32} (hR : RelL S T) (D : (k0 = 0 ∧ (¬ p0 < (f_X4_firstQ 3) ∧ ¬ (f_X4_lastQ 3) < p0) ∧ S1 = S ∧ n0 = if (r_X5_lies p0 S) = 0 then 0 else 1) ∨ (k0 = 1 ∧ (p0 < (f_X4_firstQ 3) ∨ (f_X4_lastQ 3) < p0) ∧ S1 = S ∧ n0 = n)) : RelL S1 (r_X7_lies p0 T).2 := by
  rcases D with ⟨_, _, e, _⟩ | ⟨_, _, e, _⟩
  · rw [RelL, e]; exact ((Eq.refl (kx S)).trans hR).trans (km_o (tu_lies _ T)).symm
  · rw [RelL, e]; exact ((Eq.refl (kx S)).trans hR).trans (km_o (tu_lies _ T)).symm
theorem rk_undone {S S1 : sX} {T : sM} {k0 : Int32} {n n0 : Int64} {p0 : Int32} (hR : RelL S T) (D : (k0 = 0 ∧ (¬ p0 < -4 ∧ ¬ 144 < p0) ∧ S1 = S ∧ n0 = if (r_X5_undone p0 S) = 0 then 0 else 1) ∨ (k0 = 1 ∧ (p0 < -4 ∨ 144 < p0) ∧ S1 = S ∧ n0 = n)) : RelL S1 (r_X7_undone p0 T).2 := by
  rcases D with ⟨_, _, e, _⟩ | ⟨_, _, e, _⟩
  · rw [RelL, e]; exact ((Eq.refl (kx S)).trans hR).trans (km_o (tu_undone _ T)).symm
  · rw [RelL, e]; exact ((Eq.refl (kx S)).trans hR).trans (km_o (tu_undone _ T)).symm
theorem rk_comesBack {S S1 : sX} {T : sM} {k0 : Int32} {n n0 : Int64} {p0 : Int32} (hR : RelL S T) (D : (k0 = 0 ∧ (¬ p0 < -32 ∧ ¬ -5 < p0) ∧ S1 = S ∧ n0 = if (r_X5_comesBack p0 S) = 0 then 0 else 1) ∨ (k0 = 1 ∧ (p0 < -32 ∨ -5 < p0) ∧ S1 = S ∧ n0 = n)) : RelL S1 (r_X7_comesBack p0 T).2 := by
  rcases D with ⟨_, _, e, _⟩ | ⟨_, _, e, _⟩
  · rw [RelL, e]; exact ((Eq.refl (kx S)).trans hR).trans (km_o (tu_comesBack _ T)).symm
  · rw [RelL, e]; exact ((Eq.refl (kx S)).trans hR).trans (km_o (tu_comesBack _ T)).symm
theorem rk_comesForth {S S1 : sX} {T : sM} {k0 : Int32} {n n0 : Int64} {p0 : Int32} (hR : RelL S T) (D : (k0 = 0 ∧ (¬ p0 < (f_X4_firstQ 3) ∧ ¬ (f_X4_lastQ 3) < p0) ∧ S1 = S ∧ n0 = if (r_X5_comesForth p0 S) = 0 then 0 else 1) ∨ (k0 = 1 ∧ (p0 < (f_X4_firstQ 3) ∨ (f_X4_lastQ 3) < p0) ∧ S1 = S ∧ n0 = n)) : RelL S1 (r_X7_comesForth p0 T).2 := by
  rcases D with ⟨_, _, e, _⟩ | ⟨_, _, e, _⟩
  · rw [RelL, e]; exact ((Eq.refl (kx S)).trans hR).trans (km_o (tu_comesForth _ T)).symm
  · rw [RelL, e]; exact ((Eq.refl (kx S)).trans hR).trans (km_o (tu_comesForth _ T)).symm
theorem rk_opposite {S S1 : sX} {T : sM} {k0 : Int32} {n n0 : Int64} {p0 : Int32} (hR : RelL S T) (D : (k0 = 0 ∧ (¬ p0 < -160 ∧ ¬ 160 < p0) ∧ S1 = S ∧ n0 = if (r_X5_opposite p0 S) = 0 then 0 else 1) ∨ (k0 = 1 ∧ (p0 < -160 ∨ 160 < p0) ∧ S1 = S ∧ n0 = n)) : RelL S1 (r_X7_opposite p0 T).2 := by
  rcases D with ⟨_, _, e, _⟩ | ⟨_, _, e, _⟩
  · rw [RelL, e]; exact ((Eq.refl (kx S)).trans hR).trans (km_o (tu_opposite _ T)).symm
  · rw [RelL, e]; exact ((Eq.refl (kx S)).trans hR).trans (km_o (tu_opposite _ T)).symm
theorem rk_house {S S1 : sX} {T : sM} {k0 : Int32} {n n0 : Int64} {p0 : Int32} (hR : RelL S T) (D : (k0 = 0 ∧ (¬ p0 < 0 ∧ ¬ 4 < p0) ∧ S1 = S ∧ n0 = (r_X5_house p0 S).toInt64) ∨ (k0 = 1 ∧ (p0 < 0 ∨ 4 < p0) ∧ S1 = S ∧ n0 = n)) : RelL S1 (r_X7_house p0 T).2 := by
  rcases D with ⟨_, _, e, _⟩ | ⟨_, _, e, _⟩
  · rw [RelL, e]; exact ((Eq.refl (kx S)).trans hR).trans (km_o (tu_house _ T)).symm
  · rw [RelL, e]; exact ((Eq.refl (kx S)).trans hR).trans (km_o (tu_house _ T)).symm
theorem rk_isSound {S : sX} {T : sM} (hR : RelL S T) : RelL S (r_X7_isSound T).2 := ((Eq.refl (kx S)).trans hR).trans (km_o (tu_isSound T)).symm
theorem rk_digest {S : sX} {T : sM} (hR : RelL S T) : RelL S (r_X7_digest T).2 := ((Eq.refl (kx S)).trans hR).trans (km_o (tu_digest T)).symm
theorem rl_0 : RelL (r_X5_init cX0) mS0 := by
  show kx _ = km _
  decide +kernel
theorem rk_knock {S : sX} {T : sM} (hR : RelL S T) : RelL (r_X5_knock S).2 (r_X7_knock T).2 := congrArg (fun x => x + 1) hR
theorem rc_knock {S : sX} {T : sM} (hR : RelL S T) : (r_X5_knock S).1 = (r_X7_knock T).1 := congrArg (fun x => x + 1) hR
