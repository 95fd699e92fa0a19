theorem mx_up {A A' : qA} {S S' : sM} {hp : qq_H} {o : Nat} {c : qq_C} (h : ms_M A S hp) (hA : ms_A A' hp.1) (ho : o = 84 ∨ o = A.1 ∨ o = A.2.1 ∨ o = A.2.2) (h0 : va_up hp.2 o c 84 = .inr (4, ms_ob A' S')) (h1 : va_up hp.2 o c A'.1 = .inl (0, 8, .inl S'.1)) (h2 : va_up hp.2 o c A'.2.1 = .inl (0, 8, .inl S'.2.1)) (h3 : va_up hp.2 o c A'.2.2 = .inl (2, 8, .inl S'.2.2.1)) : ms_M A' S' (hp.1, va_up hp.2 o c) ∧ fr A hp (hp.1, va_up hp.2 o c) := by
  have ne : ∀ k, ¬ k = o → va_up hp.2 o c k = hp.2 k := fun k hk => by simp only [va_up]; rw [if_neg hk]
  obtain ⟨r1, r2, r3, lg, r5, r6⟩ := h.2.2.2.2.2.2.2
  have g3 := h.2.2.1
  have g4 := h.2.2.2.1
  have g5 := h.2.2.2.2.1
  have g6 := h.2.2.2.2.2.1
  obtain ⟨a1, a2, a3, a4⟩ := h.2.2.2.2.2.2.1
  have nr : ∀ r (f : Nat → Int32), hp.2 r = c_row f → ¬ r = o := fun r f hr => by
    rcases ho with rfl | rfl | rfl | rfl
    · exact row_no hr g3
    · exact row_ne hr g4 (show (8 : Nat) ≠ 11 by decide)
    · exact row_ne hr g5 (show (8 : Nat) ≠ 11 by decide)
    · exact row_nt hr g6 (by decide)
  refine ⟨⟨qq_exm h.1 (Nat.le_refl _) (fun k hk => ne k (by omega)), h.2.1, h0, h1, h2, h3, hA, ?_⟩, Nat.le_refl _, fun j _ d1 d2 d3 d4 d5 => ne j (fun e => by rcases ho with rfl | rfl | rfl | rfl <;> contradiction)⟩
  refine ⟨(ne 85 (by omega)).trans r1, fun j hj => (ne (pr j) (nr _ _ (r2 j hj))).trans (r2 j hj), (ne 89 (by omega)).trans r3, lg, (ne 86 (by omega)).trans r5, fun j r hj hr => ?_⟩
  obtain ⟨t1, t2, t3⟩ := r6 j r hj hr
  exact ⟨t1, t2, (ne r (nr _ _ t3)).trans t3⟩
theorem up_o {f : Nat → qq_C} {k o : Nat} {c d : qq_C} (h : k ≠ o) (e : f k = d) : va_up f o c k = d := by
  simp only [va_up]
  rw [if_neg h]
  exact e
theorem up_s {f : Nat → qq_C} {o : Nat} {c : qq_C} : va_up f o c o = c := by
  simp only [va_up]
  rw [if_pos trivial]
theorem ms_a2 {A : qA} {S : sM} {hp : qq_H} (h : ms_M A S hp) : A.1 ≠ A.2.2 := row_nt h.2.2.2.1 h.2.2.2.2.2.1 (by decide)
theorem ms_a3 {A : qA} {S : sM} {hp : qq_H} (h : ms_M A S hp) : A.2.1 ≠ A.2.2 := row_nt h.2.2.2.2.1 h.2.2.2.2.2.1 (by decide)
theorem ms_o1 {A : qA} {S : sM} {hp : qq_H} (h : ms_M A S hp) : A.1 ≠ 84 := row_no h.2.2.2.1 h.2.2.1
theorem ms_o2 {A : qA} {S : sM} {hp : qq_H} (h : ms_M A S hp) : A.2.1 ≠ 84 := row_no h.2.2.2.2.1 h.2.2.1
theorem ms_o3 {A : qA} {S : sM} {hp : qq_H} (h : ms_M A S hp) : A.2.2 ≠ 84 := fun e => by
  have h1 := h.2.2.1
  rw [← e, h.2.2.2.2.2.1] at h1
  cases h1
theorem qE_le {A : qA} {S : sM} {hp : qq_H} (h : ms_M A S hp) : qq_E ≤ A.1 ∧ qq_E ≤ A.2.1 ∧ qq_E ≤ A.2.2 := by
  obtain ⟨a1, a2, a3, a4⟩ := h.2.2.2.2.2.2.1
  exact ⟨by show 80 ≤ _; omega, by show 80 ≤ _; omega, by show 80 ≤ _; omega⟩
section MX
variable {M : qq_M} {A : qA} {hp : qq_H} {bc bs pc idx : Nat} {loc : List (Nat × Value)} {rest : List Value} {P : Option Value → qq_H → Prop} {PX : String → qq_H → Prop} {S : sM}
theorem mx_get (h : ms_M A S hp) (hdg : decode M.cc pc = .ok (.getfield idx, 3)) (k : Nat) (hk : k < 11) {v : Value} (hv : (ms_ob A S)[k]? = some v) (hw : Cond.fieldLink M.y.cls idx (TX7 k).1 (TX7 k).2.1 (TX7 k).2.2.1 ∈ lw_gd) (kk : qq_Go M hp bc bs (pc + 3) loc (v :: rest) P PX) : qq_Go M hp bc bs pc loc (.ref 84 :: rest) P PX :=
  qq_get (C := RX7) (T := TX7) (N := 11) hdg h.2.2.1 rfl k hk hv ku_X7 hw kk
theorem mx_put7 {x : Int32} (h : ms_M A S hp) (hdg : decode M.cc pc = .ok (.putfield idx, 3)) (hw : Cond.fieldLink M.y.cls idx "QuarterpowersModel" "done" "I" ∈ lw_gd) (kk : ∀ hp1, ms_M A (S.1, S.2.1, S.2.2.1, x, S.2.2.2.2.1, S.2.2.2.2.2.1, S.2.2.2.2.2.2) hp1 → (∀ A0, fr A0 hp hp1) → qq_Go M hp1 bc bs (pc + 3) loc rest P PX) : qq_Go M hp bc bs pc loc (.int x :: .ref 84 :: rest) P PX := by
  refine qq_put (C := RX7) (T := TX7) (N := 11) (ty := .int) hdg h.2.2.1 (by decide) rfl 7 (by decide) (Nat.le_of_ble_eq_true rfl) ku_X7 hw tyX7 tyX7_ok nmX7 rfl (by decide +kernel) (fun _ => rfl) (fun _ => rfl) ?_
  have hz := mx_up (A' := A) (S' := (S.1, S.2.1, S.2.2.1, x, S.2.2.2.2.1, S.2.2.2.2.2.1, S.2.2.2.2.2.2)) h (o := 84) (c := .inr (4, (ms_ob A S).set 7 (.int x))) h.2.2.2.2.2.2.1 (Or.inl rfl) up_s (up_o (ms_o1 h) h.2.2.2.1) (up_o (ms_o2 h) h.2.2.2.2.1) (up_o (ms_o3 h) h.2.2.2.2.2.1)
  exact kk _ hz.1 (fun A0 => ⟨Nat.le_refl _, fun j _ d _ _ _ _ => up_o d rfl⟩)
theorem mx_put8 {x : Int32} (h : ms_M A S hp) (hdg : decode M.cc pc = .ok (.putfield idx, 3)) (hw : Cond.fieldLink M.y.cls idx "QuarterpowersModel" "refused" "I" ∈ lw_gd) (kk : ∀ hp1, ms_M A (S.1, S.2.1, S.2.2.1, S.2.2.2.1, x, S.2.2.2.2.2.1, S.2.2.2.2.2.2) hp1 → (∀ A0, fr A0 hp hp1) → qq_Go M hp1 bc bs (pc + 3) loc rest P PX) : qq_Go M hp bc bs pc loc (.int x :: .ref 84 :: rest) P PX := by
  refine qq_put (C := RX7) (T := TX7) (N := 11) (ty := .int) hdg h.2.2.1 (by decide) rfl 8 (by decide) (Nat.le_of_ble_eq_true rfl) ku_X7 hw tyX7 tyX7_ok nmX7 rfl (by decide +kernel) (fun _ => rfl) (fun _ => rfl) ?_
  have hz := mx_up (A' := A) (S' := (S.1, S.2.1, S.2.2.1, S.2.2.2.1, x, S.2.2.2.2.2.1, S.2.2.2.2.2.2)) h (o := 84) (c := .inr (4, (ms_ob A S).set 8 (.int x))) h.2.2.2.2.2.2.1 (Or.inl rfl) up_s (up_o (ms_o1 h) h.2.2.2.1) (up_o (ms_o2 h) h.2.2.2.2.1) (up_o (ms_o3 h) h.2.2.2.2.2.1)
  exact kk _ hz.1 (fun A0 => ⟨Nat.le_refl _, fun j _ d _ _ _ _ => up_o d rfl⟩)
theorem mx_put9 {x : Int32} (h : ms_M A S hp) (hdg : decode M.cc pc = .ok (.putfield idx, 3)) (hw : Cond.fieldLink M.y.cls idx "QuarterpowersModel" "knocked" "I" ∈ lw_gd) (kk : ∀ hp1, ms_M A (S.1, S.2.1, S.2.2.1, S.2.2.2.1, S.2.2.2.2.1, x, S.2.2.2.2.2.2) hp1 → (∀ A0, fr A0 hp hp1) → qq_Go M hp1 bc bs (pc + 3) loc rest P PX) : qq_Go M hp bc bs pc loc (.int x :: .ref 84 :: rest) P PX := by
  refine qq_put (C := RX7) (T := TX7) (N := 11) (ty := .int) hdg h.2.2.1 (by decide) rfl 9 (by decide) (Nat.le_of_ble_eq_true rfl) ku_X7 hw tyX7 tyX7_ok nmX7 rfl (by decide +kernel) (fun _ => rfl) (fun _ => rfl) ?_
  have hz := mx_up (A' := A) (S' := (S.1, S.2.1, S.2.2.1, S.2.2.2.1, S.2.2.2.2.1, x, S.2.2.2.2.2.2)) h (o := 84) (c := .inr (4, (ms_ob A S).set 9 (.int x))) h.2.2.2.2.2.2.1 (Or.inl rfl) up_s (up_o (ms_o1 h) h.2.2.2.1) (up_o (ms_o2 h) h.2.2.2.2.1) (up_o (ms_o3 h) h.2.2.2.2.2.1)
  exact kk _ hz.1 (fun A0 => ⟨Nat.le_refl _, fun j _ d _ _ _ _ => up_o d rfl⟩)
theorem mx_put10 {x : Int32} (h : ms_M A S hp) (hdg : decode M.cc pc = .ok (.putfield idx, 3)) (hw : Cond.fieldLink M.y.cls idx "QuarterpowersModel" "thrown" "I" ∈ lw_gd) (kk : ∀ hp1, ms_M A (S.1, S.2.1, S.2.2.1, S.2.2.2.1, S.2.2.2.2.1, S.2.2.2.2.2.1, x) hp1 → (∀ A0, fr A0 hp hp1) → qq_Go M hp1 bc bs (pc + 3) loc rest P PX) : qq_Go M hp bc bs pc loc (.int x :: .ref 84 :: rest) P PX := by
  refine qq_put (C := RX7) (T := TX7) (N := 11) (ty := .int) hdg h.2.2.1 (by decide) rfl 10 (by decide) (Nat.le_of_ble_eq_true rfl) ku_X7 hw tyX7 tyX7_ok nmX7 rfl (by decide +kernel) (fun _ => rfl) (fun _ => rfl) ?_
  have hz := mx_up (A' := A) (S' := (S.1, S.2.1, S.2.2.1, S.2.2.2.1, S.2.2.2.2.1, S.2.2.2.2.2.1, x)) h (o := 84) (c := .inr (4, (ms_ob A S).set 10 (.int x))) h.2.2.2.2.2.2.1 (Or.inl rfl) up_s (up_o (ms_o1 h) h.2.2.2.1) (up_o (ms_o2 h) h.2.2.2.2.1) (up_o (ms_o3 h) h.2.2.2.2.2.1)
  exact kk _ hz.1 (fun A0 => ⟨Nat.le_refl _, fun j _ d _ _ _ _ => up_o d rfl⟩)
theorem mx_putA4 {r : Nat} {f : Nat → Int32} (h : ms_M A S hp) (hr : hp.2 r = .inl (0, 8, .inl f)) (hr0 : 90 < r) (hr1 : r < hp.1) (hne : r ≠ A.2.1) (hdg : decode M.cc pc = .ok (.putfield idx, 3)) (hw : Cond.fieldLink M.y.cls idx "QuarterpowersModel" "kinds" "[I" ∈ lw_gd) (kk : ∀ hp1, ms_M (r, A.2.1, A.2.2) (f, S.2.1, S.2.2.1, S.2.2.2) hp1 → (∀ A0, fr A0 hp hp1) → (∀ j, j ≠ 84 → hp1.2 j = hp.2 j) → hp1.1 = hp.1 → qq_Go M hp1 bc bs (pc + 3) loc rest P PX) : qq_Go M hp bc bs pc loc (.ref r :: .ref 84 :: rest) P PX := by
  refine qq_put (C := RX7) (T := TX7) (N := 11) (ty := .array .int) hdg h.2.2.1 (by decide) rfl 4 (by decide) (Nat.le_of_ble_eq_true rfl) ku_X7 hw tyX7 tyX7_ok nmX7 rfl (by decide +kernel) (fun _ => rfl) (fun _ => rfl) ?_
  obtain ⟨a1, a2, a3, a4⟩ := h.2.2.2.2.2.2.1
  have hz := mx_up (A' := (r, A.2.1, A.2.2)) (S' := (f, S.2.1, S.2.2.1, S.2.2.2)) h (o := 84) (c := .inr (4, (ms_ob A S).set 4 (.ref r))) ⟨⟨hr0, hr1⟩, a2, a3, hne⟩ (Or.inl rfl) up_s (up_o (show r ≠ 84 by omega) hr) (up_o (ms_o2 (A := A) (S := S) h) h.2.2.2.2.1) (up_o (ms_o3 (A := A) (S := S) h) h.2.2.2.2.2.1)
  exact kk _ hz.1 (fun A0 => ⟨Nat.le_refl _, fun j _ d _ _ _ _ => up_o d rfl⟩) (fun j d => up_o d rfl) rfl
theorem mx_putA5 {r : Nat} {f : Nat → Int32} (h : ms_M A S hp) (hr : hp.2 r = .inl (0, 8, .inl f)) (hr0 : 90 < r) (hr1 : r < hp.1) (hne : r ≠ A.1) (hdg : decode M.cc pc = .ok (.putfield idx, 3)) (hw : Cond.fieldLink M.y.cls idx "QuarterpowersModel" "qs" "[I" ∈ lw_gd) (kk : ∀ hp1, ms_M (A.1, r, A.2.2) (S.1, f, S.2.2.1, S.2.2.2) hp1 → (∀ A0, fr A0 hp hp1) → (∀ j, j ≠ 84 → hp1.2 j = hp.2 j) → hp1.1 = hp.1 → qq_Go M hp1 bc bs (pc + 3) loc rest P PX) : qq_Go M hp bc bs pc loc (.ref r :: .ref 84 :: rest) P PX := by
  refine qq_put (C := RX7) (T := TX7) (N := 11) (ty := .array .int) hdg h.2.2.1 (by decide) rfl 5 (by decide) (Nat.le_of_ble_eq_true rfl) ku_X7 hw tyX7 tyX7_ok nmX7 rfl (by decide +kernel) (fun _ => rfl) (fun _ => rfl) ?_
  obtain ⟨a1, a2, a3, a4⟩ := h.2.2.2.2.2.2.1
  have hz := mx_up (A' := (A.1, r, A.2.2)) (S' := (S.1, f, S.2.2.1, S.2.2.2)) h (o := 84) (c := .inr (4, (ms_ob A S).set 5 (.ref r))) ⟨a1, ⟨hr0, hr1⟩, a3, hne.symm⟩ (Or.inl rfl) up_s (up_o (ms_o1 (A := A) (S := S) h) h.2.2.2.1) (up_o (show r ≠ 84 by omega) hr) (up_o (ms_o3 (A := A) (S := S) h) h.2.2.2.2.2.1)
  exact kk _ hz.1 (fun A0 => ⟨Nat.le_refl _, fun j _ d _ _ _ _ => up_o d rfl⟩) (fun j d => up_o d rfl) rfl
theorem mx_putA6 {r : Nat} {f : Nat → Int32} (h : ms_M A S hp) (hr : hp.2 r = .inl (2, 8, .inl f)) (hr0 : 90 < r) (hr1 : r < hp.1) (hdg : decode M.cc pc = .ok (.putfield idx, 3)) (hw : Cond.fieldLink M.y.cls idx "QuarterpowersModel" "areBelow" "[Z" ∈ lw_gd) (kk : ∀ hp1, ms_M (A.1, A.2.1, r) (S.1, S.2.1, f, S.2.2.2) hp1 → (∀ A0, fr A0 hp hp1) → (∀ j, j ≠ 84 → hp1.2 j = hp.2 j) → hp1.1 = hp.1 → qq_Go M hp1 bc bs (pc + 3) loc rest P PX) : qq_Go M hp bc bs pc loc (.ref r :: .ref 84 :: rest) P PX := by
  refine qq_put (C := RX7) (T := TX7) (N := 11) (ty := .array .boolean) hdg h.2.2.1 (by decide) rfl 6 (by decide) (Nat.le_of_ble_eq_true rfl) ku_X7 hw tyX7 tyX7_ok nmX7 rfl (by decide +kernel) (fun _ => rfl) (fun _ => rfl) ?_
  obtain ⟨a1, a2, a3, a4⟩ := h.2.2.2.2.2.2.1
  have hz := mx_up (A' := (A.1, A.2.1, r)) (S' := (S.1, S.2.1, f, S.2.2.2)) h (o := 84) (c := .inr (4, (ms_ob A S).set 6 (.ref r))) ⟨a1, a2, ⟨hr0, hr1⟩, a4⟩ (Or.inl rfl) up_s (up_o (ms_o1 (A := A) (S := S) h) h.2.2.2.1) (up_o (ms_o2 (A := A) (S := S) h) h.2.2.2.2.1) (up_o (show r ≠ 84 by omega) hr)
  exact kk _ hz.1 (fun A0 => ⟨Nat.le_refl _, fun j _ d _ _ _ _ => up_o d rfl⟩) (fun j d => up_o d rfl) rfl
theorem mx_st1 {i x : Int32} (h : ms_M A S hp) (hdg : decode M.cc pc = .ok (.iastore, 1)) (hin : vp_in i 8) (kk : ∀ hp1, ms_M A (upd S.1 i.toNatClampNeg x, S.2) hp1 → fr A hp hp1 → hp1.1 = hp.1 → (∀ j, j ≠ A.1 → hp1.2 j = hp.2 j) → qq_Go M hp1 bc bs (pc + 1) loc rest P PX) : qq_Go M hp bc bs pc loc (.int x :: .int i :: .ref A.1 :: rest) P PX := by
  refine qq_iast hdg h.2.2.2.1 (qE_le h).1 hin ?_
  obtain ⟨a1, a2, a3, a4⟩ := h.2.2.2.2.2.2.1
  have hz := mx_up (A' := A) (S' := (upd S.1 i.toNatClampNeg x, S.2)) h (o := A.1) (c := .inl (0, 8, .inl (upd S.1 i.toNatClampNeg x))) h.2.2.2.2.2.2.1 (Or.inr (Or.inl rfl)) (up_o (Ne.symm (ms_o1 h)) h.2.2.1) up_s (up_o (Ne.symm a4) h.2.2.2.2.1) (up_o (Ne.symm (ms_a2 h)) h.2.2.2.2.2.1)
  exact kk _ hz.1 hz.2 rfl (fun j d => up_o d rfl)
theorem mx_st2 {i x : Int32} (h : ms_M A S hp) (hdg : decode M.cc pc = .ok (.iastore, 1)) (hin : vp_in i 8) (kk : ∀ hp1, ms_M A (S.1, upd S.2.1 i.toNatClampNeg x, S.2.2) hp1 → fr A hp hp1 → hp1.1 = hp.1 → (∀ j, j ≠ A.2.1 → hp1.2 j = hp.2 j) → qq_Go M hp1 bc bs (pc + 1) loc rest P PX) : qq_Go M hp bc bs pc loc (.int x :: .int i :: .ref A.2.1 :: rest) P PX := by
  refine qq_iast hdg h.2.2.2.2.1 (qE_le h).2.1 hin ?_
  obtain ⟨a1, a2, a3, a4⟩ := h.2.2.2.2.2.2.1
  have hz := mx_up (A' := A) (S' := (S.1, upd S.2.1 i.toNatClampNeg x, S.2.2)) h (o := A.2.1) (c := .inl (0, 8, .inl (upd S.2.1 i.toNatClampNeg x))) h.2.2.2.2.2.2.1 (Or.inr (Or.inr (Or.inl rfl))) (up_o (Ne.symm (ms_o2 h)) h.2.2.1) (up_o a4 h.2.2.2.1) up_s (up_o (Ne.symm (ms_a3 h)) h.2.2.2.2.2.1)
  exact kk _ hz.1 hz.2 rfl (fun j d => up_o d rfl)
theorem mx_st3 {i x : Int32} (h : ms_M A S hp) (hdg : decode M.cc pc = .ok (.bastore, 1)) (hin : vp_in i 8) (kk : ∀ hp1, ms_M A (S.1, S.2.1, upd S.2.2.1 i.toNatClampNeg (vp_nar .boolean x), S.2.2.2) hp1 → fr A hp hp1 → hp1.1 = hp.1 → (∀ j, j ≠ A.2.2 → hp1.2 j = hp.2 j) → qq_Go M hp1 bc bs (pc + 1) loc rest P PX) : qq_Go M hp bc bs pc loc (.int x :: .int i :: .ref A.2.2 :: rest) P PX := by
  refine qq_zast hdg h.2.2.2.2.2.1 (qE_le h).2.2 hin ?_
  have hz := mx_up (A' := A) (S' := (S.1, S.2.1, upd S.2.2.1 i.toNatClampNeg (vp_nar .boolean x), S.2.2.2)) h (o := A.2.2) (c := .inl (2, 8, .inl (upd S.2.2.1 i.toNatClampNeg (vp_nar .boolean x)))) h.2.2.2.2.2.2.1 (Or.inr (Or.inr (Or.inr rfl))) (up_o (Ne.symm (ms_o3 h)) h.2.2.1) (up_o (ms_a2 h) h.2.2.2.1) (up_o (ms_a3 h) h.2.2.2.2.1) up_s
  exact kk _ hz.1 hz.2 rfl (fun j d => up_o d rfl)
theorem mx_pw {i : Int32} (h : ms_M A S hp) (hdg : decode M.cc pc = .ok (.aaload, 1)) (hin : vp_in i 321) (kk : qq_Go M hp bc bs (pc + 1) loc (.ref (pr i.toNatClampNeg) :: rest) P PX) : qq_Go M hp bc bs pc loc (.int i :: .ref 85 :: rest) P PX :=
  qq_aald hdg h.2.2.2.2.2.2.2.1 (Or.inl ⟨rfl, by decide⟩) hin kk
end MX
theorem pw_row {A : qA} {S : sM} {hp : qq_H} {j : Nat} (h : ms_M A S hp) (hj : j < 321) : hp.2 (pr j) = c_row (PW j) ∧ pr j < hp.1 := ⟨h.2.2.2.2.2.2.2.2.1 j hj, Nat.lt_of_lt_of_le (pr_in hj).2 h.2.1⟩
