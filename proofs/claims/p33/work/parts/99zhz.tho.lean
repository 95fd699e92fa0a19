theorem tq_tup {S X : sM} {x : Int32} (h : ∃ y, X = th y S) : ∃ y, (X.1, X.2.1, X.2.2.1, X.2.2.2.1, X.2.2.2.2.1, X.2.2.2.2.2.1, x) = th y S := by
  obtain ⟨y, rfl⟩ := h
  exact ⟨x, rfl⟩
theorem tu_kind (cell : Int32) (S : sM) : ∃ y, (r_X7_kind cell S).2 = th y S := ⟨_, ts_kind cell S⟩
theorem tu_of (cell : Int32) (S : sM) : ∃ y, (r_X7_of cell S).2 = th y S := ⟨_, ts_of cell S⟩
theorem tu_isBelow (cell : Int32) (S : sM) : ∃ y, (r_X7_isBelow cell S).2 = th y S := ⟨_, ts_isBelow cell S⟩
theorem tu_height (cell : Int32) (S : sM) : ∃ y, (r_X7_height cell S).2 = th y S := ⟨_, ts_height cell S⟩
theorem tu_digits (cell : Int32) (S : sM) : ∃ y, (r_X7_digits cell S).2 = th y S := ⟨_, ts_digits cell S⟩
theorem tu_upper (cell : Int32) (S : sM) : ∃ y, (r_X7_upper cell S).2 = th y S := ⟨_, ts_upper cell S⟩
theorem tu_lower (cell : Int32) (S : sM) : ∃ y, (r_X7_lower cell S).2 = th y S := ⟨_, ts_lower cell S⟩
theorem tu_find (cell isL : Int32) (S : sM) : ∃ y, (r_X7_find cell isL S).2 = th y S := ⟨_, ts_find cell isL S⟩
theorem tu_rank (cell : Int32) (S : sM) : ∃ y, (r_X7_rank cell S).2 = th y S := ⟨_, ts_rank cell S⟩
theorem tu_before (how cell : Int32) (S : sM) : ∃ y, (r_X7_before how cell S).2 = th y S := ⟨_, ts_before how cell S⟩
theorem tu_order (one other : Int32) (S : sM) : ∃ y, (r_X7_order one other S).2 = th y S := ⟨_, ts_order one other S⟩
theorem tu_house (what : Int32) (S : sM) : ∃ y, (r_X7_house what S).2 = th y S := ⟨_, ts_house what S⟩
theorem tu_isZero (cell : Int32) (S : sM) : ∃ y, (r_X7_isZero cell S).2 = th y S := by
  have h : TP S (r_X7_isZero cell S) := by
    unfold r_X7_isZero
    exact (tp_i (tp_i (tp_p (tq_isRefused _ _ _)) (tp_p (tq_isRefused _ _ _))) (tp_p (tq_isRefused _ _ _)))
  exact h
theorem tu_isEndless (cell : Int32) (S : sM) : ∃ y, (r_X7_isEndless cell S).2 = th y S := by
  have h : TP S (r_X7_isEndless cell S) := by
    unfold r_X7_isEndless
    exact (tp_i (tp_i (tp_p (tq_isRefused _ _ _)) (tp_p (tq_isRefused _ _ _))) (tp_p (tq_isRefused _ _ _)))
  exact h
theorem tu_whole (cell k9 : Int32) (S : sM) : ∃ y, (r_X7_whole cell k9 S).2 = th y S := by
  have h : TP S (r_X7_whole cell k9 S) := by
    unfold r_X7_whole
    exact (tp_i (tp_i (tp_p (tq_isRefused _ _ _)) (tp_p (tq_isRefused _ _ _))) (tp_i (tp_i (tp_i (tp_p (tq_tup (tq_isRefused _ _ _))) (tp_p (tq_isRefused _ _ _))) (tp_p (tq_tup (tq_isRefused _ _ _)))) (tp_p (tq_isRefused _ _ _))))
  exact h
theorem tu_isAlike (one other : Int32) (S : sM) : ∃ y, (r_X7_isAlike one other S).2 = th y S := by
  have h : TP S (r_X7_isAlike one other S) := by
    unfold r_X7_isAlike
    exact (tp_i (tp_i (tp_p (tq_areNone _ _ _)) (tp_p (tq_areNone _ _ _))) (tp_p (tq_areNone _ _ _)))
  exact h
theorem tu_isNear (one other : Int32) (S : sM) : ∃ y, (r_X7_isNear one other S).2 = th y S := by
  have h : TP S (r_X7_isNear one other S) := by
    unfold r_X7_isNear
    exact (tp_i (tp_i (tp_p (tq_areNone _ _ _)) (tp_p (tq_areNone _ _ _))) (tp_p (tq_areNone _ _ _)))
  exact h
theorem tu_most (one other : Int32) (S : sM) : ∃ y, (r_X7_most one other S).2 = th y S := by
  have h : TP S (r_X7_most one other S) := by
    unfold r_X7_most
    exact (tp_i (tp_i (tp_p (tq_tup (tq_areNone _ _ _))) (tp_i (tp_p (tq_areNone _ _ _)) (tp_p (tq_areNone _ _ _)))) (tp_p (tq_areNone _ _ _)))
  exact h
theorem tu_isWithin (one other : Int32) (S : sM) : ∃ y, (r_X7_isWithin one other S).2 = th y S := by
  have h : TP S (r_X7_isWithin one other S) := by
    unfold r_X7_isWithin
    exact (tp_i (tp_p (tu_most _ _ _)) (tp_p (tu_most _ _ _)))
  exact h
theorem tu_answer (how q9 k9 : Int32) (S : sM) : ∃ y, (r_X7_answer how q9 k9 S).2 = th y S := by
  have h : TP S (r_X7_answer how q9 k9 S) := by
    unfold r_X7_answer
    exact (tp_i (tp_i (tp_p (tq_isArgument _ _)) (tp_p (tq_isArgument _ _))) (tp_i (tp_p (tq_self S)) (tp_i (tp_i (tp_p (tq_isArgument _ _)) (tp_p (tq_isArgument _ _))) (tp_i (tp_i (tp_p (tq_isArgument _ _)) (tp_p (tq_isArgument _ _))) (tp_i (tp_p (tq_isArgument _ _)) (tp_i (tp_p (tq_tup (tq_isArgument _ _))) (tp_i (tp_p (tq_isArgument _ _)) (tp_p (tq_isArgument _ _)))))))))
  exact h
theorem tu_below (how n9 k9 : Int32) (S : sM) : ∃ y, (r_X7_below how n9 k9 S).2 = th y S := by
  have h : TP S (r_X7_below how n9 k9 S) := by
    unfold r_X7_below
    exact (tp_i (tp_i (tp_p (tq_isArgument _ _)) (tp_p (tq_isArgument _ _))) (tp_i (tp_i (tp_p (tq_isArgument _ _)) (tp_p (tq_isArgument _ _))) (tp_i (tp_p (tq_isArgument _ _)) (tp_p (tq_isArgument _ _)))))
  exact h
theorem tu_rises (how from9 to9 : Int32) (S : sM) : ∃ y, (r_X7_rises how from9 to9 S).2 = th y S := by
  have h : TP S (r_X7_rises how from9 to9 S) := by
    unfold r_X7_rises
    exact (tp_i (tp_i (tp_p (tq_isArgument _ _)) (tp_p (tq_isArgument _ _))) (tp_i (tp_p (tq_self S)) (tp_i (tp_i (tp_p (tq_isArgument _ _)) (tp_p (tq_isArgument _ _))) (tp_i (tp_p (tq_self S)) (tp_i (tp_i (tp_p (tq_isArgument _ _)) (tp_p (tq_isArgument _ _))) (tp_i (tp_i (tp_p (tq_isArgument _ _)) (tp_p (tq_isArgument _ _))) (tp_i (tp_p (tq_isArgument _ _)) (tp_i (tp_p (tq_isArgument _ _)) (tp_p (tq_isArgument _ _))))))))))
  exact h
theorem tu_between (q9 : Int32) (S : sM) : ∃ y, (r_X7_between q9 S).2 = th y S := by
  have h : TP S (r_X7_between q9 S) := by
    unfold r_X7_between
    exact (tp_i (tp_p (tq_isArgument _ _)) (tp_i (tp_p (tq_isArgument _ _)) (tp_i (tp_p (tq_isArgument _ _)) (tp_i (tp_p (tq_isArgument _ _)) (tp_p (tq_isArgument _ _))))))
  exact h
theorem tu_lies (q9 : Int32) (S : sM) : ∃ y, (r_X7_lies q9 S).2 = th y S := by
  have h : TP S (r_X7_lies q9 S) := by
    unfold r_X7_lies
    exact (tp_i (tp_p (tq_isArgument _ _)) (tp_i (tp_p (tq_isArgument _ _)) (tp_p (tq_isArgument _ _))))
  exact h
theorem tu_undone (q9 : Int32) (S : sM) : ∃ y, (r_X7_undone q9 S).2 = th y S := by
  have h : TP S (r_X7_undone q9 S) := by
    unfold r_X7_undone
    exact (tp_p (tq_isArgument _ _))
  exact h
theorem tu_comesBack (q9 : Int32) (S : sM) : ∃ y, (r_X7_comesBack q9 S).2 = th y S := by
  have h : TP S (r_X7_comesBack q9 S) := by
    unfold r_X7_comesBack
    exact (tp_p (tq_isArgument _ _))
  exact h
theorem tu_comesForth (q9 : Int32) (S : sM) : ∃ y, (r_X7_comesForth q9 S).2 = th y S := by
  have h : TP S (r_X7_comesForth q9 S) := by
    unfold r_X7_comesForth
    exact (tp_p (tq_isArgument _ _))
  exact h
theorem tu_opposite (q9 : Int32) (S : sM) : ∃ y, (r_X7_opposite q9 S).2 = th y S := by
  have h : TP S (r_X7_opposite q9 S) := by
    unfold r_X7_opposite
    exact (tp_p (tq_isArgument _ _))
  exact h
theorem tu_isSound (S : sM) : ∃ y, (r_X7_isSound S).2 = th y S := by
  have h : TP S (r_X7_isSound S) := by
    unfold r_X7_isSound
    exact (tp_p (tq_tup (tq_self S)))
  exact h
theorem tu_digest (S : sM) : ∃ y, (r_X7_digest S).2 = th y S := by
  rw [r_X7_digest.eq_1]
  exact ⟨0, rfl⟩
theorem im_o {T X : sM} (h : IM T) (e : ∃ y, X = th y T) : IM X := by
  obtain ⟨y, rfl⟩ := e
  exact im_kind0 h rfl rfl rfl
