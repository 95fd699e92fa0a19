theorem mx_up {LG : Nat → qR} {S S' : sM} {hp : qq_H} {o : Nat} {c : qq_C} (h : ms_M LG S hp) (ho : o = 84 ∨ (91 ≤ o ∧ o ≤ 93)) (h0 : va_up hp.2 o c 84 = .inr (4, ms_ob S')) (h1 : va_up hp.2 o c 91 = .inl (0, 8, .inl S'.1)) (h2 : va_up hp.2 o c 92 = .inl (0, 8, .inl S'.2.1)) (h3 : va_up hp.2 o c 93 = .inl (2, 8, .inl S'.2.2.1)) : ms_M LG S' (hp.1, va_up hp.2 o c) ∧ sm_M hp (hp.1, va_up hp.2 o c) := by
  have ne : ∀ k, ¬ k = o → va_up hp.2 o c k = hp.2 k := fun k hk => by simp only [va_up]; rw [if_neg hk]
  obtain ⟨r1, r2, r3, ⟨p, r4⟩, lg, r5, r6⟩ := h.2.2.2.2.2.2
  refine ⟨⟨qq_exm h.1 (Nat.le_refl _) (fun k hk => ne k (by omega)), h.2.1, h0, h1, h2, h3, ?_⟩, Nat.le_refl _, fun j _ hd => ne j (fun e => hd (by unfold ms_d; omega))⟩
  refine ⟨(ne 85 (by omega)).trans r1, fun j hj => (ne (pr j) (by have := pr_in hj; omega)).trans (r2 j hj), (ne 89 (by omega)).trans r3, ⟨p, (ne 90 (by omega)).trans r4⟩, lg, (ne 86 (by omega)).trans r5, fun j r hj hr => ?_⟩
  obtain ⟨t1, t2, t3⟩ := r6 j r hj hr
  exact ⟨t1, t2, (ne r (by omega)).trans t3⟩
section MX
variable {M : qq_M} {LG : Nat → qR} {hp : qq_H} {bc bs pc idx : Nat} {loc : List (Nat × Value)} {rest : List Value} {P : Option Value → qq_H → Prop} {PX : String → qq_H → Prop} {S : sM}
theorem mx_get (h : ms_M LG S hp) (hdg : decode M.cc pc = .ok (.getfield idx, 3)) (k : Nat) (hk : k < 11) {v : Value} (hv : (ms_ob S)[k]? = some v) (hw : Cond.fieldLink M.y.cls idx (TX7 k).1 (TX7 k).2.1 (TX7 k).2.2.1 ∈ lw_gd) (kk : qq_Go M hp bc bs (pc + 3) loc (v :: rest) P PX) : qq_Go M hp bc bs pc loc (.ref 84 :: rest) P PX :=
  qq_get (C := RX7) (T := TX7) (N := 11) hdg h.2.2.1 rfl k hk hv ku_X7 hw kk
theorem mx_put7 {x : Int32} (h : ms_M LG S hp) (hdg : decode M.cc pc = .ok (.putfield idx, 3)) (hw : Cond.fieldLink M.y.cls idx "QuarterpowersModel" "done" "I" ∈ lw_gd) (kk : ∀ hp1, ms_M LG (S.1, S.2.1, S.2.2.1, x, S.2.2.2.2.1, S.2.2.2.2.2.1, S.2.2.2.2.2.2) hp1 → sm_M hp hp1 → qq_Go M hp1 bc bs (pc + 3) loc rest P PX) : qq_Go M hp bc bs pc loc (.int x :: .ref 84 :: rest) P PX := by
  refine qq_put (C := RX7) (T := TX7) (N := 11) (ty := .int) hdg h.2.2.1 (by decide) rfl 7 (by decide) (Nat.le_of_ble_eq_true rfl) ku_X7 hw tyX7 tyX7_ok nmX7 rfl (by decide +kernel) (fun _ => rfl) (fun _ => rfl) ?_
  have hz := mx_up (S' := (S.1, S.2.1, S.2.2.1, x, S.2.2.2.2.1, S.2.2.2.2.2.1, S.2.2.2.2.2.2)) h (o := 84) (c := .inr (4, (ms_ob S).set 7 (.int x))) (by decide) rfl h.2.2.2.1 h.2.2.2.2.1 h.2.2.2.2.2.1
  exact kk _ hz.1 hz.2
theorem mx_put8 {x : Int32} (h : ms_M LG S hp) (hdg : decode M.cc pc = .ok (.putfield idx, 3)) (hw : Cond.fieldLink M.y.cls idx "QuarterpowersModel" "refused" "I" ∈ lw_gd) (kk : ∀ hp1, ms_M LG (S.1, S.2.1, S.2.2.1, S.2.2.2.1, x, S.2.2.2.2.2.1, S.2.2.2.2.2.2) hp1 → sm_M hp hp1 → qq_Go M hp1 bc bs (pc + 3) loc rest P PX) : qq_Go M hp bc bs pc loc (.int x :: .ref 84 :: rest) P PX := by
  refine qq_put (C := RX7) (T := TX7) (N := 11) (ty := .int) hdg h.2.2.1 (by decide) rfl 8 (by decide) (Nat.le_of_ble_eq_true rfl) ku_X7 hw tyX7 tyX7_ok nmX7 rfl (by decide +kernel) (fun _ => rfl) (fun _ => rfl) ?_
  have hz := mx_up (S' := (S.1, S.2.1, S.2.2.1, S.2.2.2.1, x, S.2.2.2.2.2.1, S.2.2.2.2.2.2)) h (o := 84) (c := .inr (4, (ms_ob S).set 8 (.int x))) (by decide) rfl h.2.2.2.1 h.2.2.2.2.1 h.2.2.2.2.2.1
  exact kk _ hz.1 hz.2
theorem mx_put9 {x : Int32} (h : ms_M LG S hp) (hdg : decode M.cc pc = .ok (.putfield idx, 3)) (hw : Cond.fieldLink M.y.cls idx "QuarterpowersModel" "knocked" "I" ∈ lw_gd) (kk : ∀ hp1, ms_M LG (S.1, S.2.1, S.2.2.1, S.2.2.2.1, S.2.2.2.2.1, x, S.2.2.2.2.2.2) hp1 → sm_M hp hp1 → qq_Go M hp1 bc bs (pc + 3) loc rest P PX) : qq_Go M hp bc bs pc loc (.int x :: .ref 84 :: rest) P PX := by
  refine qq_put (C := RX7) (T := TX7) (N := 11) (ty := .int) hdg h.2.2.1 (by decide) rfl 9 (by decide) (Nat.le_of_ble_eq_true rfl) ku_X7 hw tyX7 tyX7_ok nmX7 rfl (by decide +kernel) (fun _ => rfl) (fun _ => rfl) ?_
  have hz := mx_up (S' := (S.1, S.2.1, S.2.2.1, S.2.2.2.1, S.2.2.2.2.1, x, S.2.2.2.2.2.2)) h (o := 84) (c := .inr (4, (ms_ob S).set 9 (.int x))) (by decide) rfl h.2.2.2.1 h.2.2.2.2.1 h.2.2.2.2.2.1
  exact kk _ hz.1 hz.2
theorem mx_put10 {x : Int32} (h : ms_M LG S hp) (hdg : decode M.cc pc = .ok (.putfield idx, 3)) (hw : Cond.fieldLink M.y.cls idx "QuarterpowersModel" "thrown" "I" ∈ lw_gd) (kk : ∀ hp1, ms_M LG (S.1, S.2.1, S.2.2.1, S.2.2.2.1, S.2.2.2.2.1, S.2.2.2.2.2.1, x) hp1 → sm_M hp hp1 → qq_Go M hp1 bc bs (pc + 3) loc rest P PX) : qq_Go M hp bc bs pc loc (.int x :: .ref 84 :: rest) P PX := by
  refine qq_put (C := RX7) (T := TX7) (N := 11) (ty := .int) hdg h.2.2.1 (by decide) rfl 10 (by decide) (Nat.le_of_ble_eq_true rfl) ku_X7 hw tyX7 tyX7_ok nmX7 rfl (by decide +kernel) (fun _ => rfl) (fun _ => rfl) ?_
  have hz := mx_up (S' := (S.1, S.2.1, S.2.2.1, S.2.2.2.1, S.2.2.2.2.1, S.2.2.2.2.2.1, x)) h (o := 84) (c := .inr (4, (ms_ob S).set 10 (.int x))) (by decide) rfl h.2.2.2.1 h.2.2.2.2.1 h.2.2.2.2.2.1
  exact kk _ hz.1 hz.2
theorem mx_st91 {i x : Int32} (h : ms_M LG S hp) (hdg : decode M.cc pc = .ok (.iastore, 1)) (hin : vp_in i 8) (kk : ∀ hp1, ms_M LG (upd S.1 i.toNatClampNeg x, S.2) hp1 → sm_M hp hp1 → qq_Go M hp1 bc bs (pc + 1) loc rest P PX) : qq_Go M hp bc bs pc loc (.int x :: .int i :: .ref 91 :: rest) P PX := by
  refine qq_iast hdg h.2.2.2.1 (by decide) hin ?_
  have hz := mx_up (S' := (upd S.1 i.toNatClampNeg x, S.2)) h (o := 91) (c := .inl (0, 8, .inl (upd S.1 i.toNatClampNeg x))) (by decide) h.2.2.1 rfl h.2.2.2.2.1 h.2.2.2.2.2.1
  exact kk _ hz.1 hz.2
theorem mx_st92 {i x : Int32} (h : ms_M LG S hp) (hdg : decode M.cc pc = .ok (.iastore, 1)) (hin : vp_in i 8) (kk : ∀ hp1, ms_M LG (S.1, upd S.2.1 i.toNatClampNeg x, S.2.2) hp1 → sm_M hp hp1 → qq_Go M hp1 bc bs (pc + 1) loc rest P PX) : qq_Go M hp bc bs pc loc (.int x :: .int i :: .ref 92 :: rest) P PX := by
  refine qq_iast hdg h.2.2.2.2.1 (by decide) hin ?_
  have hz := mx_up (S' := (S.1, upd S.2.1 i.toNatClampNeg x, S.2.2)) h (o := 92) (c := .inl (0, 8, .inl (upd S.2.1 i.toNatClampNeg x))) (by decide) h.2.2.1 h.2.2.2.1 rfl h.2.2.2.2.2.1
  exact kk _ hz.1 hz.2
theorem mx_st93 {i x : Int32} (h : ms_M LG S hp) (hdg : decode M.cc pc = .ok (.bastore, 1)) (hin : vp_in i 8) (kk : ∀ hp1, ms_M LG (S.1, S.2.1, upd S.2.2.1 i.toNatClampNeg (vp_nar .boolean x), S.2.2.2) hp1 → sm_M hp hp1 → qq_Go M hp1 bc bs (pc + 1) loc rest P PX) : qq_Go M hp bc bs pc loc (.int x :: .int i :: .ref 93 :: rest) P PX := by
  refine qq_zast hdg h.2.2.2.2.2.1 (by decide) hin ?_
  have hz := mx_up (S' := (S.1, S.2.1, upd S.2.2.1 i.toNatClampNeg (vp_nar .boolean x), S.2.2.2)) h (o := 93) (c := .inl (2, 8, .inl (upd S.2.2.1 i.toNatClampNeg (vp_nar .boolean x)))) (by decide) h.2.2.1 h.2.2.2.1 h.2.2.2.2.1 rfl
  exact kk _ hz.1 hz.2
end MX
