/-! what only touches 'thrown' -/
def th (x : Int32) (S : sM) : sM := (S.1, S.2.1, S.2.2.1, S.2.2.2.1, S.2.2.2.2.1, S.2.2.2.2.2.1, x)
theorem dg_f {k : Int32} (h : vp_in k 8) : ((8 : Int32).toInt - (k + 1).toInt).toNat < 9 := by
  rw [vp_in_iff] at h
  have e8 : (8 : Int32).toInt = 8 := rfl
  have e1 : (1 : Int32).toInt = 1 := rfl
  rw [qm_iadd h.1 (by omega) (by decide) (by decide)]
  omega
theorem ts_ref (i a : Int32) (S : sM) : (r_X7_isRefused i a S).2 = th ((r_X7_isRefused i a S).2.2.2.2.2.2.2) S := by
  unfold r_X7_isRefused
  (repeat' split) <;> rfl
theorem ts_arg (i : Int32) (S : sM) : (r_X7_isArgument i S).2 = th ((r_X7_isArgument i S).2.2.2.2.2.2.2) S := by
  unfold r_X7_isArgument
  (repeat' split) <;> rfl
/-- the state is that of S, but for thrown -/
def TP (S : sM) (p : Int32 × sM) : Prop := ∃ y, p.2 = th y S
theorem tp_i {S : sM} {c : Prop} [Decidable c] {a b : Int32 × sM} (ha : TP S a) (hb : TP S b) : TP S (if c then a else b) := by
  by_cases h : c
  · rw [if_pos h]; exact ha
  · rw [if_neg h]; exact hb
theorem tp_p {S X : sM} {v : Int32} (h : ∃ y, X = th y S) : TP S (v, X) := h
theorem tp_e {S : sM} {p : Int32 × sM} (h : TP S p) : p.2 = th p.2.2.2.2.2.2.2 S := by
  obtain ⟨y, hy⟩ := h
  rw [hy]
  rfl
theorem tq_isRefused (i a : Int32) (S : sM) : ∃ y, (r_X7_isRefused i a S).2 = th y S := ⟨_, ts_ref i a S⟩
theorem tq_isArgument (i : Int32) (S : sM) : ∃ y, (r_X7_isArgument i S).2 = th y S := ⟨_, ts_arg i S⟩
theorem ref_th (i a x : Int32) (S : sM) : r_X7_isRefused i a (th x S) = r_X7_isRefused i a S := rfl
theorem low_th (a x : Int32) (S : sM) : r_X7_isLow a (th x S) = r_X7_isLow a S := rfl
theorem none_th (a b x : Int32) (S : sM) : r_X7_areNone a b (th x S) = r_X7_areNone a b S := rfl
theorem tq_self (S : sM) : ∃ y, S = th y S := ⟨S.2.2.2.2.2.2, rfl⟩
theorem tq_isLow (cell : Int32) (S : sM) : ∃ y, (r_X7_isLow cell S).2 = th y S := by
  have h : TP S (r_X7_isLow cell S) := by
    unfold r_X7_isLow
    exact (tp_i (tp_i (tp_i (tp_p (tq_isRefused _ _ _)) (tp_p (tq_isRefused _ _ _))) (tp_p (tq_isRefused _ _ _))) (tp_i (tp_i (tp_p (tq_isRefused _ _ _)) (tp_p (tq_isRefused _ _ _))) (tp_p (tq_isRefused _ _ _))))
  exact h
theorem tq_isUnkept (cell : Int32) (S : sM) : ∃ y, (r_X7_isUnkept cell S).2 = th y S := by
  have h : TP S (r_X7_isUnkept cell S) := by
    unfold r_X7_isUnkept
    exact (tp_i (tp_i (tp_p (tq_isRefused _ _ _)) (tp_p (tq_isRefused _ _ _))) (tp_i (tp_p (tq_isRefused _ _ _)) (tp_p (tq_isRefused _ _ _))))
  exact h
theorem tq_areNone (one other : Int32) (S : sM) : ∃ y, (r_X7_areNone one other S).2 = th y S := by
  have h : TP S (r_X7_areNone one other S) := by
    unfold r_X7_areNone
    exact (tp_i (tp_i (tp_p (tq_isRefused _ _ _)) (tp_p (tq_isRefused _ _ _))) (tp_p (tq_isRefused _ _ _)))
  exact h
theorem ts_kind (cell : Int32) (S : sM) : (r_X7_kind cell S).2 = th ((r_X7_kind cell S).2.2.2.2.2.2.2) S := by
  refine tp_e ?_
  unfold r_X7_kind
  exact (tp_i (tp_p (tq_isRefused _ _ _)) (tp_p (tq_isRefused _ _ _)))
theorem mo_X7_kind (hp : qq_H) (A : qA) (x : Int32) (S : sM) (hS : ms_M A (th x S) hp) (cell : Int32)  : qq_Mt mX7_kind [.ref 84, .int cell] hp 0 0 (fun v hp' => v = some (.int ((r_X7_kind cell S).1)) ∧ ms_M A (th ((r_X7_kind cell S).2.2.2.2.2.2.2) S) hp' ∧ fr A hp hp') (fun _ _ => False) := by
  have h := mt_X7_kind hp A (th x S) hS cell 
  have e : r_X7_kind cell (th x S) = r_X7_kind cell S := rfl
  rw [e, ts_kind] at h
  exact h
theorem ts_of (cell : Int32) (S : sM) : (r_X7_of cell S).2 = th ((r_X7_of cell S).2.2.2.2.2.2.2) S := by
  refine tp_e ?_
  unfold r_X7_of
  exact (tp_i (tp_i (tp_i (tp_p (tq_isRefused _ _ _)) (tp_p (tq_isRefused _ _ _))) (tp_p (tq_isRefused _ _ _))) (tp_p (tq_isRefused _ _ _)))
theorem mo_X7_of (hp : qq_H) (A : qA) (x : Int32) (S : sM) (hS : ms_M A (th x S) hp) (cell : Int32)  : qq_Mt mX7_of [.ref 84, .int cell] hp 0 0 (fun v hp' => v = some (.int ((r_X7_of cell S).1)) ∧ ms_M A (th ((r_X7_of cell S).2.2.2.2.2.2.2) S) hp' ∧ fr A hp hp') (fun _ _ => False) := by
  have h := mt_X7_of hp A (th x S) hS cell 
  have e : r_X7_of cell (th x S) = r_X7_of cell S := rfl
  rw [e, ts_of] at h
  exact h
theorem ts_isBelow (cell : Int32) (S : sM) : (r_X7_isBelow cell S).2 = th ((r_X7_isBelow cell S).2.2.2.2.2.2.2) S := by
  refine tp_e ?_
  unfold r_X7_isBelow
  exact (tp_i (tp_i (tp_i (tp_p (tq_isRefused _ _ _)) (tp_i (tp_p (tq_isRefused _ _ _)) (tp_p (tq_isRefused _ _ _)))) (tp_p (tq_isRefused _ _ _))) (tp_p (tq_isRefused _ _ _)))
theorem mo_X7_isBelow (hp : qq_H) (A : qA) (x : Int32) (S : sM) (hS : ms_M A (th x S) hp) (cell : Int32) (zI : IM S) : qq_Mt mX7_isBelow [.ref 84, .int cell] hp 3 33 (fun v hp' => v = some (.int ((r_X7_isBelow cell S).1)) ∧ ms_M A (th ((r_X7_isBelow cell S).2.2.2.2.2.2.2) S) hp' ∧ fr A hp hp') (fun _ _ => False) := by
  have h := mt_X7_isBelow hp A (th x S) hS cell zI
  have e : r_X7_isBelow cell (th x S) = r_X7_isBelow cell S := rfl
  rw [e, ts_isBelow] at h
  exact h
theorem ts_height (cell : Int32) (S : sM) : (r_X7_height cell S).2 = th ((r_X7_height cell S).2.2.2.2.2.2.2) S := by
  refine tp_e ?_
  unfold r_X7_height
  exact (tp_i (tp_p (tq_isLow _ _)) (tp_p (tq_isLow _ _)))
theorem mo_X7_height (hp : qq_H) (A : qA) (x : Int32) (S : sM) (hS : ms_M A (th x S) hp) (cell : Int32) (zI : IM S) (zH : IH S) : qq_Mt mX7_height [.ref 84, .int cell] hp 5 55 (fun v hp' => v = some (.int ((r_X7_height cell S).1)) ∧ ms_M A (th ((r_X7_height cell S).2.2.2.2.2.2.2) S) hp' ∧ fr A hp hp') (fun _ _ => False) := by
  have h := mt_X7_height hp A (th x S) hS cell zI zH
  have e : r_X7_height cell (th x S) = r_X7_height cell S := by
    unfold r_X7_height
    repeat rw [ref_th]
    repeat rw [low_th]
    repeat rw [none_th]
    try rfl
  rw [e, ts_height] at h
  exact h
theorem ts_digits (cell : Int32) (S : sM) : (r_X7_digits cell S).2 = th ((r_X7_digits cell S).2.2.2.2.2.2.2) S := by
  refine tp_e ?_
  unfold r_X7_digits
  exact (tp_i (tp_p (tq_isLow _ _)) (tp_p (tq_isLow _ _)))
theorem mo_X7_digits (hp : qq_H) (A : qA) (x : Int32) (S : sM) (hS : ms_M A (th x S) hp) (cell : Int32) (zI : IM S) (zH : IH S) : qq_Mt mX7_digits [.ref 84, .int cell] hp 5 55 (fun v hp' => v = some (.int ((r_X7_digits cell S).1)) ∧ ms_M A (th ((r_X7_digits cell S).2.2.2.2.2.2.2) S) hp' ∧ fr A hp hp') (fun _ _ => False) := by
  have h := mt_X7_digits hp A (th x S) hS cell zI zH
  have e : r_X7_digits cell (th x S) = r_X7_digits cell S := by
    unfold r_X7_digits
    repeat rw [ref_th]
    repeat rw [low_th]
    repeat rw [none_th]
    try rfl
  rw [e, ts_digits] at h
  exact h
theorem ts_upper (cell : Int32) (S : sM) : (r_X7_upper cell S).2 = th ((r_X7_upper cell S).2.2.2.2.2.2.2) S := by
  refine tp_e ?_
  unfold r_X7_upper
  exact (tp_i (tp_p (tq_isUnkept _ _)) (tp_p (tq_isUnkept _ _)))
theorem mo_X7_upper (hp : qq_H) (A : qA) (x : Int32) (S : sM) (hS : ms_M A (th x S) hp) (cell : Int32)  : qq_Mt mX7_upper [.ref 84, .int cell] hp 0 0 (fun v hp' => v = some (.int ((r_X7_upper cell S).1)) ∧ ms_M A (th ((r_X7_upper cell S).2.2.2.2.2.2.2) S) hp' ∧ fr A hp hp') (fun _ _ => False) := by
  have h := mt_X7_upper hp A (th x S) hS cell 
  have e : r_X7_upper cell (th x S) = r_X7_upper cell S := rfl
  rw [e, ts_upper] at h
  exact h
theorem ts_lower (cell : Int32) (S : sM) : (r_X7_lower cell S).2 = th ((r_X7_lower cell S).2.2.2.2.2.2.2) S := by
  refine tp_e ?_
  unfold r_X7_lower
  exact (tp_i (tp_p (tq_isUnkept _ _)) (tp_p (tq_isUnkept _ _)))
theorem mo_X7_lower (hp : qq_H) (A : qA) (x : Int32) (S : sM) (hS : ms_M A (th x S) hp) (cell : Int32)  : qq_Mt mX7_lower [.ref 84, .int cell] hp 0 0 (fun v hp' => v = some (.int ((r_X7_lower cell S).1)) ∧ ms_M A (th ((r_X7_lower cell S).2.2.2.2.2.2.2) S) hp' ∧ fr A hp hp') (fun _ _ => False) := by
  have h := mt_X7_lower hp A (th x S) hS cell 
  have e : r_X7_lower cell (th x S) = r_X7_lower cell S := rfl
  rw [e, ts_lower] at h
  exact h
theorem ts_find (cell isL : Int32) (S : sM) : (r_X7_find cell isL S).2 = th ((r_X7_find cell isL S).2.2.2.2.2.2.2) S := by
  refine tp_e ?_
  unfold r_X7_find
  exact (tp_i (tp_p (tq_isRefused _ _ _)) (tp_p (tq_isRefused _ _ _)))
theorem mo_X7_find (hp : qq_H) (A : qA) (x : Int32) (S : sM) (hS : ms_M A (th x S) hp) (cell isL : Int32)  : qq_Mt mX7_find [.ref 84, .int cell, .int isL] hp 0 0 (fun v hp' => v = some (.int ((r_X7_find cell isL S).1)) ∧ ms_M A (th ((r_X7_find cell isL S).2.2.2.2.2.2.2) S) hp' ∧ fr A hp hp') (fun _ _ => False) := by
  have h := mt_X7_find hp A (th x S) hS cell isL 
  have e : r_X7_find cell isL (th x S) = r_X7_find cell isL S := rfl
  rw [e, ts_find] at h
  exact h
theorem ts_rank (cell : Int32) (S : sM) : (r_X7_rank cell S).2 = th ((r_X7_rank cell S).2.2.2.2.2.2.2) S := by
  refine tp_e ?_
  unfold r_X7_rank
  exact (tp_i (tp_p (tq_isRefused _ _ _)) (tp_p (tq_isRefused _ _ _)))
theorem mo_X7_rank (hp : qq_H) (A : qA) (x : Int32) (S : sM) (hS : ms_M A (th x S) hp) (cell : Int32) (zI : IM S) : qq_Mt mX7_rank [.ref 84, .int cell] hp 54 594 (fun v hp' => v = some (.int ((r_X7_rank cell S).1)) ∧ ms_M A (th ((r_X7_rank cell S).2.2.2.2.2.2.2) S) hp' ∧ fr A hp hp') (fun _ _ => False) := by
  have h := mt_X7_rank hp A (th x S) hS cell zI
  have e : r_X7_rank cell (th x S) = r_X7_rank cell S := by
    unfold r_X7_rank
    repeat rw [ref_th]
    repeat rw [low_th]
    repeat rw [none_th]
    try rfl
  rw [e, ts_rank] at h
  exact h
theorem ts_before (how cell : Int32) (S : sM) : (r_X7_before how cell S).2 = th ((r_X7_before how cell S).2.2.2.2.2.2.2) S := by
  refine tp_e ?_
  unfold r_X7_before
  exact (tp_i (tp_i (tp_p (tq_isRefused _ _ _)) (tp_p (tq_isRefused _ _ _))) (tp_i (tp_i (tp_i (tp_i (tp_p (tq_isRefused _ _ _)) (tp_p (tq_isRefused _ _ _))) (tp_p (tq_isRefused _ _ _))) (tp_i (tp_i (tp_p (tq_isRefused _ _ _)) (tp_i (tp_p (tq_isRefused _ _ _)) (tp_p (tq_isRefused _ _ _)))) (tp_p (tq_isRefused _ _ _)))) (tp_p (tq_isRefused _ _ _))))
theorem mo_X7_before (hp : qq_H) (A : qA) (x : Int32) (S : sM) (hS : ms_M A (th x S) hp) (how cell : Int32) (zI : IM S) : qq_Mt mX7_before [.ref 84, .int how, .int cell] hp 36 396 (fun v hp' => v = some (.int ((r_X7_before how cell S).1)) ∧ ms_M A (th ((r_X7_before how cell S).2.2.2.2.2.2.2) S) hp' ∧ fr A hp hp') (fun _ _ => False) := by
  have h := mt_X7_before hp A (th x S) hS how cell zI
  have e : r_X7_before how cell (th x S) = r_X7_before how cell S := by
    unfold r_X7_before
    repeat rw [ref_th]
    repeat rw [low_th]
    repeat rw [none_th]
    try rfl
  rw [e, ts_before] at h
  exact h
theorem ts_order (one other : Int32) (S : sM) : (r_X7_order one other S).2 = th ((r_X7_order one other S).2.2.2.2.2.2.2) S := by
  refine tp_e ?_
  unfold r_X7_order
  exact (tp_i (tp_i (tp_p (tq_areNone _ _ _)) (tp_p (tq_areNone _ _ _))) (tp_p (tq_areNone _ _ _)))
theorem mo_X7_order (hp : qq_H) (A : qA) (x : Int32) (S : sM) (hS : ms_M A (th x S) hp) (one other : Int32) (zI : IM S) : qq_Mt mX7_order [.ref 84, .int one, .int other] hp 6 66 (fun v hp' => v = some (.int ((r_X7_order one other S).1)) ∧ ms_M A (th ((r_X7_order one other S).2.2.2.2.2.2.2) S) hp' ∧ fr A hp hp') (fun _ _ => False) := by
  have h := mt_X7_order hp A (th x S) hS one other zI
  have e : r_X7_order one other (th x S) = r_X7_order one other S := by
    unfold r_X7_order
    repeat rw [ref_th]
    repeat rw [low_th]
    repeat rw [none_th]
    try rfl
  rw [e, ts_order] at h
  exact h
theorem ts_house (what : Int32) (S : sM) : (r_X7_house what S).2 = th ((r_X7_house what S).2.2.2.2.2.2.2) S := by
  refine tp_e ?_
  unfold r_X7_house
  exact (tp_i (tp_p (tq_isArgument _ _)) (tp_i (tp_p (tq_isArgument _ _)) (tp_i (tp_p (tq_isArgument _ _)) (tp_i (tp_p (tq_isArgument _ _)) (tp_p (tq_isArgument _ _))))))
theorem mo_X7_house (hp : qq_H) (A : qA) (x : Int32) (S : sM) (hS : ms_M A (th x S) hp) (what : Int32)  : qq_Mt mX7_house [.ref 84, .int what] hp 0 0 (fun v hp' => v = some (.int ((r_X7_house what S).1)) ∧ ms_M A (th ((r_X7_house what S).2.2.2.2.2.2.2) S) hp' ∧ fr A hp hp') (fun _ _ => False) := by
  have h := mt_X7_house hp A (th x S) hS what 
  have e : r_X7_house what (th x S) = r_X7_house what S := rfl
  rw [e, ts_house] at h
  exact h
