theorem mx_up {A A' : qA} {S S' : sM} {hp : qq_H} {o : Nat} {c : qq_C} (h : ms_M A S hp) (hA : ms_A A' hp.1) (ho : o = 84 ∨ o = A.1 ∨ o = A.2.1 ∨ o = A.2.2) (h0 : va_up hp.2 o c 84 = .inr (4, ms_ob A' S')) (h1 : va_up hp.2 o c A'.1 = .inl (0, 8, .inl S'.1)) (h2 : va_up hp.2 o c A'.2.1 = .inl (0, 8, .inl S'.2.1)) (h3 : va_up hp.2 o c A'.2.2 = .inl (2, 8, .inl S'.2.2.1)) : ms_M A' S' (hp.1, va_up hp.2 o c) ∧ fr A hp (hp.1, va_up hp.2 o c) := by
  have ne : ∀ k, ¬ k = o → va_up hp.2 o c k = hp.2 k := fun k hk => by simp only [va_up]; rw [if_neg hk]
  obtain ⟨⟨pf, r1, r1'⟩, r2, r3, lg, r5, r6⟩ := h.2.2.2.2.2.2.2
  have g3 := h.2.2.1
  have g4 := h.2.2.2.1
  have g5 := h.2.2.2.2.1
  have g6 := h.2.2.2.2.2.1
  obtain ⟨a1, a2, a3, a4⟩ := h.2.2.2.2.2.2.1
  have nr : ∀ r (f : Nat → Int32), hp.2 r = c_row f → ¬ r = o := fun r f hr => by
    rcases ho with rfl | rfl | rfl | rfl
    · exact row_no hr g3
    · exact row_ne hr g4 (show (8 : Nat) ≠ 11 by decide)
    · exact row_ne hr g5 (show (8 : Nat) ≠ 11 by decide)
    · exact row_nt hr g6 (by decide)
  refine ⟨⟨qq_exm h.1 (Nat.le_refl _) (fun k hk => ne k (by omega)), h.2.1, h0, h1, h2, h3, hA, ?_⟩, Nat.le_refl _, fun j _ d1 d2 d3 d4 d5 => ne j (fun e => by rcases ho with rfl | rfl | rfl | rfl <;> contradiction)⟩
  refine ⟨⟨pf, (ne 85 (by omega)).trans r1, r1'⟩, fun j hj => (ne (pr j) (nr _ _ (r2 j hj))).trans (r2 j hj), (ne 89 (by omega)).trans r3, lg, (ne 86 (by omega)).trans r5, fun j r hj hr => ?_⟩
  obtain ⟨t1, t2, t3⟩ := r6 j r hj hr
  exact ⟨t1, t2, (ne r (nr _ _ t3)).trans t3⟩
theorem up_o {f : Nat → qq_C} {k o : Nat} {c d : qq_C} (h : k ≠ o) (e : f k = d) : va_up f o c k = d := by
  simp only [va_up]
  rw [if_neg h]
  exact e
theorem up_s {f : Nat → qq_C} {o : Nat} {c : qq_C} : va_up f o c o = c := by
  simp only [va_up]
  rw [if_pos trivial]
theorem ms_a2 {A : qA} {S : sM} {hp : qq_H} (h : ms_M A S hp) : A.1 ≠ A.2.2 := row_nt h.2.2.2.1 h.2.2.2.2.2.1 (by decide)
theorem ms_a3 {A : qA} {S : sM} {hp : qq_H} (h : ms_M A S hp) : A.2.1 ≠ A.2.2 := row_nt h.2.2.2.2.1 h.2.2.2.2.2.1 (by decide)
theorem ms_o1 {A : qA} {S : sM} {hp : qq_H} (h : ms_M A S hp) : A.1 ≠ 84 := row_no h.2.2.2.1 h.2.2.1
theorem ms_o2 {A : qA} {S : sM} {hp : qq_H} (h : ms_M A S hp) : A.2.1 ≠ 84 := row_no h.2.2.2.2.1 h.2.2.1
theorem ms_o3 {A : qA} {S : sM} {hp : qq_H} (h : ms_M A S hp) : A.2.2 ≠ 84 := fun e => by
  have h1 := h.2.2.1
  rw [← e, h.2.2.2.2.2.1] at h1
  cases h1
theorem qE_le {A : qA} {S : sM} {hp : qq_H} (h : ms_M A S hp) : qq_E ≤ A.1 ∧ qq_E ≤ A.2.1 ∧ qq_E ≤ A.2.2 := by
  obtain ⟨a1, a2, a3, a4⟩ := h.2.2.2.2.2.2.1
  exact ⟨by show 80 ≤ _; omega, by show 80 ≤ _; omega, by show 80 ≤ _; omega⟩
section MX
variable {M : qq_M} {A : qA} {hp : qq_H} {bc bs pc idx : Nat} {loc : List (Nat × Value)} {rest : List Value} {P : Option Value → qq_H → Prop} {PX : String → qq_H → Prop} {S : sM}
theorem mx_get (h : ms_M A S hp) (hdg : decode M.cc pc = .ok (.getfield idx, 3)) (k : Nat) (hk : k < 11) {v : Value} (hv : (ms_ob A S)[k]? = some v) (hw : Cond.fieldLink M.y.cls idx (TX7 k).1 (TX7 k).2.1 (TX7 k).2.2.1 ∈ lw_gd) (kk : qq_Go M hp bc bs (pc + 3) loc (v :: rest) P PX) : qq_Go M hp bc bs pc loc (.ref 84 :: rest) P PX :=
  qq_get (C := RX7) (T := TX7) (N := 11) hdg h.2.2.1 rfl k hk hv ku_X7 hw kk
theorem mx_put7 {x : Int32} (h : ms_M A S hp) (hdg : decode M.cc pc = .ok (.putfield idx, 3)) (hw : Cond.fieldLink M.y.cls idx "QuarterpowersModel" "done" "I" ∈ lw_gd) (kk : ∀ hp1, ms_M A (S.1, S.2.1, S.2.2.1, x, S.2.2.2.2.1, S.2.2.2.2.2.1, S.2.2.2.2.2.2) hp1 → (∀ A0, fr A0 hp hp1) → qq_Go M hp1 bc bs (pc + 3) loc rest P PX) : qq_Go M hp bc bs pc loc (.int x :: .ref 84 :: rest) P PX := by
  refine qq_put (C := RX7) (T := TX7) (N := 11) (ty := .int) hdg h.2.2.1 (by decide) rfl 7 (by decide) (Nat.le_of_ble_eq_true rfl) ku_X7 hw tyX7 tyX7_ok nmX7 rfl (by decide +kernel) (fun _ => rfl) (fun _ => rfl) ?_
  have hz := mx_up (A' := A) (S' := (S.1, S.2.1, S.2.2.1, x, S.2.2.2.2.1, S.2.2.2.2.2.1, S.2.2.2.2.2.2)) h (o := 84) (c := .inr (4, (ms_ob A S).set 7 (.int x))) h.2.2.2.2.2.2.1 (Or.inl rfl) up_s (up_o (ms_o1 h) h.2.2.2.1) (up_o (ms_o2 h) h.2.2.2.2.1) (up_o (ms_o3 h) h.2.2.2.2.2.1)
  exact kk _ hz.1 (fun A0 => ⟨Nat.le_refl _, fun j _ d _ _ _ _ => up_o d rfl⟩)
theorem mx_put8 {x : Int32} (h : ms_M A S hp) (hdg : decode M.cc pc = .ok (.putfield idx, 3)) (hw : Cond.fieldLink M.y.cls idx "QuarterpowersModel" "refused" "I" ∈ lw_gd) (kk : ∀ hp1, ms_M A (S.1, S.2.1, S.2.2.1, S.2.2.2.1, x, S.2.2.2.2.2.1, S.2.2.2.2.2.2) hp1 → (∀ A0, fr A0 hp hp1) → qq_Go M hp1 bc bs (pc + 3) loc rest P PX) : qq_Go M hp bc bs pc loc (.int x :: .ref 84 :: rest) P PX := by
  refine qq_put (C := RX7) (T := TX7) (N := 11) (ty := .int) hdg h.2.2.1 (by decide) rfl 8 (by decide) (Nat.le_of_ble_eq_true rfl) ku_X7 hw tyX7 tyX7_ok nmX7 rfl (by decide +kernel) (fun _ => rfl) (fun _ => rfl) ?_
  have hz := mx_up (A' := A) (S' := (S.1, S.2.1, S.2.2.1, S.2.2.2.1, x, S.2.2.2.2.2.1, S.2.2.2.2.2.2)) h (o := 84) (c := .inr (4, (ms_ob A S).set 8 (.int x))) h.2.2.2.2.2.2.1 (Or.inl rfl) up_s (up_o (ms_o1 h) h.2.2.2.1) (up_o (ms_o2 h) h.2.2.2.2.1) (up_o (ms_o3 h) h.2.2.2.2.2.1)
  exact kk _ hz.1 (fun A0 => ⟨Nat.le_refl _, fun j _ d _ _ _ _ => up_o d rfl⟩)
theorem mx_put9 {x : Int32} (h : ms_M A S hp) (hdg : decode M.cc pc = .ok (.putfield idx, 3)) (hw : Cond.fieldLink M.y.cls idx "QuarterpowersModel" "knocked" "I" ∈ lw_gd) (kk : ∀ hp1, ms_M A (S.1, S.2.1, S.2.2.1, S.2.2.2.1, S.2.2.2.2.1, x, S.2.2.2.2.2.2) hp1 → (∀ A0, fr A0 hp hp1) → qq_Go M hp1 bc bs (pc + 3) loc rest P PX) : qq_Go M hp bc bs pc loc (.int x :: .ref 84 :: rest) P PX := by
  refine qq_put (C := RX7) (T := TX7) (N := 11) (ty := .int) hdg h.2.2.1 (by decide) rfl 9 (by decide) (Nat.le_of_ble_eq_true rfl) ku_X7 hw tyX7 tyX7_ok nmX7 rfl (by decide +kernel) (fun _ => rfl) (fun _ => rfl) ?_
  have hz := mx_up (A' := A) (S' := (S.1, S.2.1, S.2.2.1, S.2.2.2.1, S.2.2.2.2.1, x, S.2.2.2.2.2.2)) h (o := 84) (c := .inr (4, (ms_ob A S).set 9 (.int x))) h.2.2.2.2.2.2.1 (Or.inl rfl) up_s (up_o (ms_o1 h) h.2.2.2.1) (up_o (ms_o2 h) h.2.2.2.2.1) (up_o (ms_o3 h) h.2.2.2.2.2.1)
  exact kk _ hz.1 (fun A0 => ⟨Nat.le_refl _, fun j _ d _ _ _ _ => up_o d rfl⟩)
theorem mx_put10 {x : Int32} (h : ms_M A S hp) (hdg : decode M.cc pc = .ok (.putfield idx, 3)) (hw : Cond.fieldLink M.y.cls idx "QuarterpowersModel" "thrown" "I" ∈ lw_gd) (kk : ∀ hp1, ms_M A (S.1, S.2.1, S.2.2.1, S.2.2.2.1, S.2.2.2.2.1, S.2.2.2.2.2.1, x) hp1 → (∀ A0, fr A0 hp hp1) → qq_Go M hp1 bc bs (pc + 3) loc rest P PX) : qq_Go M hp bc bs pc loc (.int x :: .ref 84 :: rest) P PX := by
  refine qq_put (C := RX7) (T := TX7) (N := 11) (ty := .int) hdg h.2.2.1 (by decide) rfl 10 (by decide) (Nat.le_of_ble_eq_true rfl) ku_X7 hw tyX7 tyX7_ok nmX7 rfl (by decide +kernel) (fun _ => rfl) (fun _ => rfl) ?_
  have hz := mx_up (A' := A) (S' := (S.1, S.2.1, S.2.2.1, S.2.2.2.1, S.2.2.2.2.1, S.2.2.2.2.2.1, x)) h (o := 84) (c := .inr (4, (ms_ob A S).set 10 (.int x))) h.2.2.2.2.2.2.1 (Or.inl rfl) up_s (up_o (ms_o1 h) h.2.2.2.1) (up_o (ms_o2 h) h.2.2.2.2.1) (up_o (ms_o3 h) h.2.2.2.2.2.1)
  exact kk _ hz.1 (fun A0 => ⟨Nat.le_refl _, fun j _ d _ _ _ _ => up_o d rfl⟩)
theorem mx_putA4 {r : Nat} {f : Nat → Int32} (h : ms_M A S hp) (hr : hp.2 r = .inl (0, 8, .inl f)) (hr0 : 90 < r) (hr1 : r < hp.1) (hne : r ≠ A.2.1) (hdg : decode M.cc pc = .ok (.putfield idx, 3)) (hw : Cond.fieldLink M.y.cls idx "QuarterpowersModel" "kinds" "[I" ∈ lw_gd) (kk : ∀ hp1, ms_M (r, A.2.1, A.2.2) (f, S.2.1, S.2.2.1, S.2.2.2) hp1 → (∀ A0, fr A0 hp hp1) → (∀ j, j ≠ 84 → hp1.2 j = hp.2 j) → hp1.1 = hp.1 → qq_Go M hp1 bc bs (pc + 3) loc rest P PX) : qq_Go M hp bc bs pc loc (.ref r :: .ref 84 :: rest) P PX := by
  refine qq_put (C := RX7) (T := TX7) (N := 11) (ty := .array .int) hdg h.2.2.1 (by decide) rfl 4 (by decide) (Nat.le_of_ble_eq_true rfl) ku_X7 hw tyX7 tyX7_ok nmX7 rfl (by decide +kernel) (fun _ => rfl) (fun _ => rfl) ?_
  obtain ⟨a1, a2, a3, a4⟩ := h.2.2.2.2.2.2.1
  have hz := mx_up (A' := (r, A.2.1, A.2.2)) (S' := (f, S.2.1, S.2.2.1, S.2.2.2)) h (o := 84) (c := .inr (4, (ms_ob A S).set 4 (.ref r))) ⟨⟨hr0, hr1⟩, a2, a3, hne⟩ (Or.inl rfl) up_s (up_o (show r ≠ 84 by omega) hr) (up_o (ms_o2 (A := A) (S := S) h) h.2.2.2.2.1) (up_o (ms_o3 (A := A) (S := S) h) h.2.2.2.2.2.1)
  exact kk _ hz.1 (fun A0 => ⟨Nat.le_refl _, fun j _ d _ _ _ _ => up_o d rfl⟩) (fun j d => up_o d rfl) rfl
theorem mx_putA5 {r : Nat} {f : Nat → Int32} (h : ms_M A S hp) (hr : hp.2 r = .inl (0, 8, .inl f)) (hr0 : 90 < r) (hr1 : r < hp.1) (hne : r ≠ A.1) (hdg : decode M.cc pc = .ok (.putfield idx, 3)) (hw : Cond.fieldLink M.y.cls idx "QuarterpowersModel" "qs" "[I" ∈ lw_gd) (kk : ∀ hp1, ms_M (A.1, r, A.2.2) (S.1, f, S.2.2.1, S.2.2.2) hp1 → (∀ A0, fr A0 hp hp1) → (∀ j, j ≠ 84 → hp1.2 j = hp.2 j) → hp1.1 = hp.1 → qq_Go M hp1 bc bs (pc + 3) loc rest P PX) : qq_Go M hp bc bs pc loc (.ref r :: .ref 84 :: rest) P PX := by
  refine qq_put (C := RX7) (T := TX7) (N := 11) (ty := .array .int) hdg h.2.2.1 (by decide) rfl 5 (by decide) (Nat.le_of_ble_eq_true rfl) ku_X7 hw tyX7 tyX7_ok nmX7 rfl (by decide +kernel) (fun _ => rfl) (fun _ => rfl) ?_
  obtain ⟨a1, a2, a3, a4⟩ := h.2.2.2.2.2.2.1
  have hz := mx_up (A' := (A.1, r, A.2.2)) (S' := (S.1, f, S.2.2.1, S.2.2.2)) h (o := 84) (c := .inr (4, (ms_ob A S).set 5 (.ref r))) ⟨a1, ⟨hr0, hr1⟩, a3, hne.symm⟩ (Or.inl rfl) up_s (up_o (ms_o1 (A := A) (S := S) h) h.2.2.2.1) (up_o (show r ≠ 84 by omega) hr) (up_o (ms_o3 (A := A) (S := S) h) h.2.2.2.2.2.1)
  exact kk _ hz.1 (fun A0 => ⟨Nat.le_refl _, fun j _ d _ _ _ _ => up_o d rfl⟩) (fun j d => up_o d rfl) rfl
theorem mx_putA6 {r : Nat} {f : Nat → Int32} (h : ms_M A S hp) (hr : hp.2 r = .inl (2, 8, .inl f)) (hr0 : 90 < r) (hr1 : r < hp.1) (hdg : decode M.cc pc = .ok (.putfield idx, 3)) (hw : Cond.fieldLink M.y.cls idx "QuarterpowersModel" "areBelow" "[Z" ∈ lw_gd) (kk : ∀ hp1, ms_M (A.1, A.2.1, r) (S.1, S.2.1, f, S.2.2.2) hp1 → (∀ A0, fr A0 hp hp1) → (∀ j, j ≠ 84 → hp1.2 j = hp.2 j) → hp1.1 = hp.1 → qq_Go M hp1 bc bs (pc + 3) loc rest P PX) : qq_Go M hp bc bs pc loc (.ref r :: .ref 84 :: rest) P PX := by
  refine qq_put (C := RX7) (T := TX7) (N := 11) (ty := .array .boolean) hdg h.2.2.1 (by decide) rfl 6 (by decide) (Nat.le_of_ble_eq_true rfl) ku_X7 hw tyX7 tyX7_ok nmX7 rfl (by decide +kernel) (fun _ => rfl) (fun _ => rfl) ?_
  obtain ⟨a1, a2, a3, a4⟩ := h.2.2.2.2.2.2.1
  have hz := mx_up (A' := (A.1, A.2.1, r)) (S' := (S.1, S.2.1, f, S.2.2.2)) h (o := 84) (c := .inr (4, (ms_ob A S).set 6 (.ref r))) ⟨a1, a2, ⟨hr0, hr1⟩, a4⟩ (Or.inl rfl) up_s (up_o (ms_o1 (A := A) (S := S) h) h.2.2.2.1) (up_o (ms_o2 (A := A) (S := S) h) h.2.2.2.2.1) (up_o (show r ≠ 84 by omega) hr)
  exact kk _ hz.1 (fun A0 => ⟨Nat.le_refl _, fun j _ d _ _ _ _ => up_o d rfl⟩) (fun j d => up_o d rfl) rfl
theorem mx_st1 {i x : Int32} (h : ms_M A S hp) (hdg : decode M.cc pc = .ok (.iastore, 1)) (hin : vp_in i 8) (kk : ∀ hp1, ms_M A (upd S.1 i.toNatClampNeg x, S.2) hp1 → fr A hp hp1 → hp1.1 = hp.1 → (∀ j, j ≠ A.1 → hp1.2 j = hp.2 j) → qq_Go M hp1 bc bs (pc + 1) loc rest P PX) : qq_Go M hp bc bs pc loc (.int x :: .int i :: .ref A.1 :: rest) P PX := by
  refine qq_iast hdg h.2.2.2.1 (qE_le h).1 hin ?_
  obtain ⟨a1, a2, a3, a4⟩ := h.2.2.2.2.2.2.1
  have hz := mx_up (A' := A) (S' := (upd S.1 i.toNatClampNeg x, S.2)) h (o := A.1) (c := .inl (0, 8, .inl (upd S.1 i.toNatClampNeg x))) h.2.2.2.2.2.2.1 (Or.inr (Or.inl rfl)) (up_o (Ne.symm (ms_o1 h)) h.2.2.1) up_s (up_o (Ne.symm a4) h.2.2.2.2.1) (up_o (Ne.symm (ms_a2 h)) h.2.2.2.2.2.1)
  exact kk _ hz.1 hz.2 rfl (fun j d => up_o d rfl)
theorem mx_st2 {i x : Int32} (h : ms_M A S hp) (hdg : decode M.cc pc = .ok (.iastore, 1)) (hin : vp_in i 8) (kk : ∀ hp1, ms_M A (S.1, upd S.2.1 i.toNatClampNeg x, S.2.2) hp1 → fr A hp hp1 → hp1.1 = hp.1 → (∀ j, j ≠ A.2.1 → hp1.2 j = hp.2 j) → qq_Go M hp1 bc bs (pc + 1) loc rest P PX) : qq_Go M hp bc bs pc loc (.int x :: .int i :: .ref A.2.1 :: rest) P PX := by
  refine qq_iast hdg h.2.2.2.2.1 (qE_le h).2.1 hin ?_
  obtain ⟨a1, a2, a3, a4⟩ := h.2.2.2.2.2.2.1
  have hz := mx_up (A' := A) (S' := (S.1, upd S.2.1 i.toNatClampNeg x, S.2.2)) h (o := A.2.1) (c := .inl (0, 8, .inl (upd S.2.1 i.toNatClampNeg x))) h.2.2.2.2.2.2.1 (Or.inr (Or.inr (Or.inl rfl))) (up_o (Ne.symm (ms_o2 h)) h.2.2.1) (up_o a4 h.2.2.2.1) up_s (up_o (Ne.symm (ms_a3 h)) h.2.2.2.2.2.1)
  exact kk _ hz.1 hz.2 rfl (fun j d => up_o d rfl)
theorem mx_st3 {i x : Int32} (h : ms_M A S hp) (hdg : decode M.cc pc = .ok (.bastore, 1)) (hin : vp_in i 8) (kk : ∀ hp1, ms_M A (S.1, S.2.1, upd S.2.2.1 i.toNatClampNeg (vp_nar .boolean x), S.2.2.2) hp1 → fr A hp hp1 → hp1.1 = hp.1 → (∀ j, j ≠ A.2.2 → hp1.2 j = hp.2 j) → qq_Go M hp1 bc bs (pc + 1) loc rest P PX) : qq_Go M hp bc bs pc loc (.int x :: .int i :: .ref A.2.2 :: rest) P PX := by
  refine qq_zast hdg h.2.2.2.2.2.1 (qE_le h).2.2 hin ?_
  have hz := mx_up (A' := A) (S' := (S.1, S.2.1, upd S.2.2.1 i.toNatClampNeg (vp_nar .boolean x), S.2.2.2)) h (o := A.2.2) (c := .inl (2, 8, .inl (upd S.2.2.1 i.toNatClampNeg (vp_nar .boolean x)))) h.2.2.2.2.2.2.1 (Or.inr (Or.inr (Or.inr rfl))) (up_o (Ne.symm (ms_o3 h)) h.2.2.1) (up_o (ms_a2 h) h.2.2.2.1) (up_o (ms_a3 h) h.2.2.2.2.1) up_s
  exact kk _ hz.1 hz.2 rfl (fun j d => up_o d rfl)
theorem mx_pw {i : Int32} (h : ms_M A S hp) (hdg : decode M.cc pc = .ok (.aaload, 1)) (hin : vp_in i 321) (kk : qq_Go M hp bc bs (pc + 1) loc (.ref (pr i.toNatClampNeg) :: rest) P PX) : qq_Go M hp bc bs pc loc (.int i :: .ref 85 :: rest) P PX := by
  obtain ⟨pf, e, hpf⟩ := h.2.2.2.2.2.2.2.1
  refine qq_aald hdg e (Or.inl ⟨rfl, by decide⟩) hin ?_
  rw [hpf _ (Nat.lt_of_not_le fun z => hin (Or.inr z))]
  exact kk
/-- three new rows for the three -/
theorem mx_new3 {pc : Nat} (h : ms_M A S hp) (j : Nat) (hj : loc[j]? = some (0, .ref 84))
    (d1 : decode M.cc pc = .ok (.aload_n 0, 1)) (d2 : decode M.cc (pc + 1) = .ok (.bipush 8, 2)) (d3 : decode M.cc (pc + 3) = .ok (.newarray .int, 2)) (i1 : Nat) (d4 : decode M.cc (pc + 5) = .ok (.putfield i1, 3))
    (d5 : decode M.cc (pc + 8) = .ok (.aload_n 0, 1)) (d6 : decode M.cc (pc + 9) = .ok (.bipush 8, 2)) (d7 : decode M.cc (pc + 11) = .ok (.newarray .int, 2)) (i2 : Nat) (d8 : decode M.cc (pc + 13) = .ok (.putfield i2, 3))
    (d9 : decode M.cc (pc + 16) = .ok (.aload_n 0, 1)) (d10 : decode M.cc (pc + 17) = .ok (.bipush 8, 2)) (d11 : decode M.cc (pc + 19) = .ok (.newarray .boolean, 2)) (i3 : Nat) (d12 : decode M.cc (pc + 21) = .ok (.putfield i3, 3))
    (w1 : Cond.fieldLink M.y.cls i1 "QuarterpowersModel" "kinds" "[I" ∈ lw_gd) (w2 : Cond.fieldLink M.y.cls i2 "QuarterpowersModel" "qs" "[I" ∈ lw_gd) (w3 : Cond.fieldLink M.y.cls i3 "QuarterpowersModel" "areBelow" "[Z" ∈ lw_gd)
    (a1 : Cond.arrayClass (newarray.typeOf .int) ∈ lw_gd) (a2 : Cond.arrayClass (newarray.typeOf .boolean) ∈ lw_gd)
    (kk : ∀ hp', ms_M (hp.1, hp.1 + 1, hp.1 + 2) ((fun _ => 0), (fun _ => 0), (fun _ => 0), S.2.2.2) hp' → hp'.1 = hp.1 + 3 → (∀ k, k < hp.1 → k ≠ 84 → hp'.2 k = hp.2 k) → qq_Go M hp' bc bs (pc + 24) loc [] P PX) : qq_Go M hp (bc + 3) (bs + 24) pc loc [] P PX := by
  obtain ⟨b1, b2, b3, b4⟩ := h.2.2.2.2.2.2.1
  have nw2 : ∀ (H : qq_H) (c : qq_C) (k : Nat), k < H.1 → (qq_nw H c).2 k = H.2 k := fun H c k hk => up_o (Nat.ne_of_lt hk) rfl
  refine qq_aload_n d1 rfl j hj ?_
  refine qq_bipush (v := 8) d2 (by decide) ?_
  refine qq_newI (bc := bc + 2) (bs := bs + 16) (N' := 8) (ms := 8) d3 (by decide) rfl (Nat.le_of_ble_eq_true rfl) (Nat.le_refl _) ?_ a1
  obtain ⟨h1, f1, r1, l1⟩ := ms_n (c := .inl (0, 8, .inl (fun _ => 0))) h rfl
  have s1 : (qq_nw hp (.inl (0, 8, .inl (fun _ => 0)))).1 = hp.1 + 1 := rfl
  have k1 := nw2 hp (.inl (0, 8, .inl (fun _ => 0)))
  refine qq_hp (hp2 := qq_nw hp (.inl (0, 8, .inl (fun _ => 0)))) rfl ?_
  generalize qq_nw hp (.inl (0, 8, .inl (fun _ => 0))) = H1 at h1 f1 r1 l1 s1 k1 ⊢
  refine mx_putA4 h1 r1 (by omega) l1 (by omega) d4 w1 (fun H2 h2 _ q2 s2 => ?_)
  refine qq_aload_n d5 rfl j hj ?_
  refine qq_bipush (v := 8) d6 (by decide) ?_
  refine qq_newI (bc := bc + 1) (bs := bs + 8) (N' := 8) (ms := 8) d7 (by decide) rfl (Nat.le_of_ble_eq_true rfl) (Nat.le_refl _) ?_ a1
  obtain ⟨h3, f3, r3, l3⟩ := ms_n (c := .inl (0, 8, .inl (fun _ => 0))) h2 rfl
  have s3 : (qq_nw H2 (.inl (0, 8, .inl (fun _ => 0)))).1 = H2.1 + 1 := rfl
  have k3 := nw2 H2 (.inl (0, 8, .inl (fun _ => 0)))
  refine qq_hp (hp2 := qq_nw H2 (.inl (0, 8, .inl (fun _ => 0)))) rfl ?_
  generalize qq_nw H2 (.inl (0, 8, .inl (fun _ => 0))) = H3 at h3 f3 r3 l3 s3 k3 ⊢
  refine mx_putA5 h3 r3 (by omega) l3 (show H2.1 ≠ hp.1 by omega) d8 w2 (fun H4 h4 _ q4 s4 => ?_)
  refine qq_aload_n d9 rfl j hj ?_
  refine qq_bipush (v := 8) d10 (by decide) ?_
  refine qq_newZ (bc := bc) (bs := bs) (N' := 8) (ms := 8) d11 (by decide) rfl (Nat.le_of_ble_eq_true rfl) (Nat.le_refl _) ?_ a2
  obtain ⟨h5, f5, r5, l5⟩ := ms_n (c := .inl (2, 8, .inl (fun _ => 0))) h4 rfl
  have s5 : (qq_nw H4 (.inl (2, 8, .inl (fun _ => 0)))).1 = H4.1 + 1 := rfl
  have k5 := nw2 H4 (.inl (2, 8, .inl (fun _ => 0)))
  refine qq_hp (hp2 := qq_nw H4 (.inl (2, 8, .inl (fun _ => 0)))) rfl ?_
  generalize qq_nw H4 (.inl (2, 8, .inl (fun _ => 0))) = H5 at h5 f5 r5 l5 s5 k5 ⊢
  refine mx_putA6 h5 r5 (by omega) l5 d12 w3 (fun H6 h6 _ q6 s6 => ?_)
  have e1 : H2.1 = hp.1 + 1 := by omega
  have e2 : H4.1 = hp.1 + 2 := by omega
  refine kk H6 ?_ (by omega) (fun k hk h84 => ?_)
  · have h7 : ms_M (hp.1, H2.1, H4.1) ((fun _ => 0), (fun _ => 0), (fun _ => 0), S.2.2.2) H6 := h6
    rw [e1, e2] at h7
    exact h7
  · rw [q6 k h84, k5 k (by omega), q4 k h84, k3 k (by omega), q2 k h84, k1 k hk]
end MX
theorem pw_row {A : qA} {S : sM} {hp : qq_H} {j : Nat} (h : ms_M A S hp) (hj : j < 321) : hp.2 (pr j) = c_row (PW j) ∧ pr j < hp.1 := ⟨h.2.2.2.2.2.2.2.2.1 j hj, Nat.lt_of_lt_of_le (pr_in hj).2 h.2.1⟩
