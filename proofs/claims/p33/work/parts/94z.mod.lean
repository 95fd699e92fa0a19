/-! the model's rows and its state -/
abbrev qR : Type := Nat → Int32
def c_row (f : qR) : qq_C := .inl (0, 11, .inl f)
/-- e to the quarters: the product's row, those above, those below -/
def pwT (s : qR × qR × qR) : qR × qR × qR :=
  ((r_X7_times (r_X7_times s.1 s.2.1 (r_X7_root 0).1).1 s.2.2 (r_X7_root 1).1).1,
   (r_X7_times s.1 s.2.1 (r_X7_root 0).1).2,
   (r_X7_times (r_X7_times s.1 s.2.1 (r_X7_root 0).1).1 s.2.2 (r_X7_root 1).1).2)
def pwS : Nat → qR × qR × qR → qR × qR × qR
  | 0, s => s
  | n + 1, s => pwT (pwS n s)
theorem pwS_s (n : Nat) (s : qR × qR × qR) : pwS (n + 1) s = pwT (pwS n s) := by rw [pwS]
theorem tp3_1 {α β γ : Type} (a : α) (b : β) (c : γ) : (a, b, c).1 = a := rfl
theorem tp3_2 {α β γ : Type} (a : α) (b : β) (c : γ) : (a, b, c).2.1 = b := rfl
theorem tp3_3 {α β γ : Type} (a : α) (b : β) (c : γ) : (a, b, c).2.2 = c := rfl
theorem pwT_1 (s : qR × qR × qR) : (pwT s).1 = (r_X7_times (r_X7_times s.1 s.2.1 (r_X7_root 0).1).1 s.2.2 (r_X7_root 1).1).1 := (congrArg (fun t => t.1) (pwT.eq_1 s)).trans (tp3_1 _ _ _)
theorem pwT_2 (s : qR × qR × qR) : (pwT s).2.1 = (r_X7_times s.1 s.2.1 (r_X7_root 0).1).2 := (congrArg (fun t => t.2.1) (pwT.eq_1 s)).trans (tp3_2 _ _ _)
theorem pwT_3 (s : qR × qR × qR) : (pwT s).2.2 = (r_X7_times (r_X7_times s.1 s.2.1 (r_X7_root 0).1).1 s.2.2 (r_X7_root 1).1).2 := (congrArg (fun t => t.2.2) (pwT.eq_1 s)).trans (tp3_3 _ _ _)
def pw0 : qR × qR × qR := (fun _ => 0, r_X7_quarterOf 4, r_X7_quarterOf 4)
def PW (j : Nat) : qR := if 160 ≤ j then (pwS (j - 160) pw0).2.1 else (pwS (160 - j) pw0).2.2
def TWO : qR := (r_X7_ratioLog 1 3).2.2
/-- the logarithms: how many twos, the row of what is left, the twos added -/
def f_twos : Nat → Int32 → Int32 → Int32
  | 0, _, t => t
  | fu + 1, m, t => if (3 * m) ≤ ((4 : Int32) <<< (t &&& 31)) then t else f_twos fu m (t + 1)
def lg_add (tw : Int32) : Nat → Int32 → qR → qR
  | 0, _, f => f
  | fu + 1, k, f => if k ≤ 0 then f else lg_add tw fu (k + -1) (r_X7_add (if 2 ≤ tw then 0 else 1) TWO f)
def lg_tw (q : Int32) : Int32 := f_twos 12 (4 + q) 0
def lg_nr (q : Int32) : Int32 := (1 : Int32) <<< (lg_tw q &&& 31)
def LGq (q : Int32) : qR := lg_add (lg_tw q) 12 (f_J9_abs_0f7a4 (lg_tw q - 2)) (r_X7_ratioLog ((4 + q) - lg_nr q) ((4 + q) + lg_nr q)).2.2
def LG (j : Nat) : qR := LGq (Int32.ofNat j - 3)
/-- where the powers' rows are -/
def pr (j : Nat) : Nat := if j = 160 then 94 else if 160 < j then 99 + 2 * (j - 161) else 100 + 2 * (159 - j)
theorem pr_in {j : Nat} (h : j < 321) : 94 ≤ pr j ∧ pr j < 419 := by
  unfold pr
  split
  · omega
  · split <;> omega
/-- the cells of kinds, qs, areBelow -/
abbrev qA : Type := Nat × Nat × Nat
/-- kinds, qs, areBelow, done, refused, knocked, thrown -/
abbrev sM : Type := qR × qR × qR × Int32 × Int32 × Int32 × Int32
def ms_ob (A : qA) (S : sM) : List Value := [.ref 85, .ref 86, .ref 89, .ref 90, .ref A.1, .ref A.2.1, .ref A.2.2, .int S.2.2.2.1, .int S.2.2.2.2.1, .int S.2.2.2.2.2.1, .int S.2.2.2.2.2.2]
def ms_R (hp : qq_H) : Prop := (∃ pf : Nat → Option Nat, hp.2 85 = .inl (4, 321, .inr (.inr (.inr (.inr pf)))) ∧ ∀ j, j < 321 → pf j = some (pr j)) ∧ (∀ j, j < 321 → hp.2 (pr j) = c_row (PW j)) ∧ hp.2 89 = c_row TWO ∧ ∃ lg : Nat → Option Nat, hp.2 86 = .inl (4, 164, .inr (.inr (.inr (.inr lg)))) ∧ ∀ j r, j < 164 → lg j = some r → 94 ≤ r ∧ r < hp.1 ∧ hp.2 r = c_row (LG j)
def ms_A (A : qA) (n : Nat) : Prop := (90 < A.1 ∧ A.1 < n) ∧ (90 < A.2.1 ∧ A.2.1 < n) ∧ (90 < A.2.2 ∧ A.2.2 < n) ∧ A.1 ≠ A.2.1
def ms_M (A : qA) (S : sM) (hp : qq_H) : Prop := qq_ex hp ∧ 419 ≤ hp.1 ∧ hp.2 84 = .inr (4, ms_ob A S) ∧ hp.2 A.1 = .inl (0, 8, .inl S.1) ∧ hp.2 A.2.1 = .inl (0, 8, .inl S.2.1) ∧ hp.2 A.2.2 = .inl (2, 8, .inl S.2.2.1) ∧ ms_A A hp.1 ∧ ms_R hp
theorem ms_pr {α : Type} {A : qA} {v : α} {T : sM} {hp : qq_H} (h : ms_M A T hp) : ms_M A (v, T).2 hp := h
/-- what a method of the model leaves as it was -/
def fr (A : qA) (hp hp' : qq_H) : Prop := hp.1 ≤ hp'.1 ∧ ∀ j, j < hp.1 → j ≠ 84 → j ≠ 86 → j ≠ A.1 → j ≠ A.2.1 → j ≠ A.2.2 → hp'.2 j = hp.2 j
/-- .. but for its object's fields and the cells of one of the three -/
theorem fr_r (A : qA) (hp : qq_H) : fr A hp hp := ⟨Nat.le_refl _, fun _ _ _ _ _ _ _ => rfl⟩
theorem fr_t {A : qA} {a b c : qq_H} (h1 : fr A a b) (h2 : fr A b c) : fr A a c := ⟨Nat.le_trans h1.1 h2.1, fun j h d e f g i => (h2.2 j (Nat.lt_of_lt_of_le h h1.1) d e f g i).trans (h1.2 j h d e f g i)⟩
theorem ms_80 {A : qA} {S : sM} {hp : qq_H} (h : ms_M A S hp) : 80 ≤ hp.1 := h.1.1
theorem ms_84 {A : qA} {S : sM} {hp : qq_H} (h : ms_M A S hp) : 84 < hp.1 := Nat.lt_of_lt_of_le (by decide) h.2.1
theorem row_ne {hp : qq_H} {r o n : Nat} {x : vp_A} {g : Nat → Int32} (h1 : hp.2 r = .inl (0, n, .inl g)) (h2 : hp.2 o = .inl (0, x)) (hx : x.1 ≠ n) : r ≠ o := fun e => by
  rw [e, h2] at h1
  injection h1 with h1
  injection h1 with _ h1
  exact hx (by rw [h1])
theorem row_nt {hp : qq_H} {r o n t : Nat} {x : vp_A} {g : Nat → Int32} (h1 : hp.2 r = .inl (0, n, .inl g)) (h2 : hp.2 o = .inl (t, x)) (hx : t ≠ 0) : r ≠ o := fun e => by
  rw [e, h2] at h1
  injection h1 with h1
  injection h1 with h1 _
  exact hx h1
theorem row_no {hp : qq_H} {r o n ci : Nat} {fs : List Value} {g : Nat → Int32} (h1 : hp.2 r = .inl (0, n, .inl g)) (h2 : hp.2 o = .inr (ci, fs)) : r ≠ o := fun e => by
  rw [e, h2] at h1
  cases h1
/-- a row of another length than 8 stays -/
theorem fr_w {A : qA} {S : sM} {hp hp' : qq_H} {r n : Nat} {g : Nat → Int32} (f : fr A hp hp') (h : ms_M A S hp) (hl : r < hp.1) (hr : hp.2 r = .inl (0, n, .inl g)) (hn : 8 ≠ n) : hp'.2 r = .inl (0, n, .inl g) := by
  obtain ⟨_, _, _, lg, r5, _⟩ := h.2.2.2.2.2.2.2
  refine (f.2 r hl (row_no hr h.2.2.1) (row_nt hr r5 (by decide)) (row_ne hr h.2.2.2.1 hn) (row_ne hr h.2.2.2.2.1 hn) (row_nt hr h.2.2.2.2.2.1 (by decide))).trans hr
theorem fr_l {A : qA} {hp hp' : qq_H} {r : Nat} (f : fr A hp hp') (hl : r < hp.1) : r < hp'.1 := Nat.lt_of_lt_of_le hl f.1
/-- a new cell -/
theorem ms_n {A : qA} {S : sM} {hp hp' : qq_H} {c : qq_C} (h : ms_M A S hp) (e : qq_nw hp c = hp') : ms_M A S hp' ∧ fr A hp hp' ∧ hp'.2 hp.1 = c ∧ hp.1 < hp'.1 := by
  subst e
  have ne : ∀ k, k < hp.1 → (qq_nw hp c).2 k = hp.2 k := fun k hk => by
    show va_up hp.2 hp.1 c k = hp.2 k
    simp only [va_up]
    rw [if_neg (Nat.ne_of_lt hk)]
  obtain ⟨h1, h2, h3, h4, h5, h6, h7, ⟨pf, r1, r1'⟩, r2, r3, lg, r5, r6⟩ := h
  obtain ⟨a1, a2, a3, a4⟩ := h7
  have hs : (qq_nw hp c).1 = hp.1 + 1 := rfl
  refine ⟨⟨qq_exm h1 (by rw [hs]; omega) (fun k hk => ne k (by omega)), by rw [hs]; omega, (ne _ (by omega)).trans h3, (ne _ a1.2).trans h4, (ne _ a2.2).trans h5, (ne _ a3.2).trans h6, ⟨⟨a1.1, by rw [hs]; omega⟩, ⟨a2.1, by rw [hs]; omega⟩, ⟨a3.1, by rw [hs]; omega⟩, a4⟩, ⟨pf, (ne _ (by omega)).trans r1, r1'⟩, fun j hj => (ne _ (by have := pr_in hj; omega)).trans (r2 j hj), (ne _ (by omega)).trans r3, lg, (ne _ (by omega)).trans r5, fun j r hj hr => ?_⟩, ⟨by rw [hs]; omega, fun j hj _ _ _ _ _ => ne j hj⟩, ?_, by rw [hs]; omega⟩
  · obtain ⟨t1, t2, t3⟩ := r6 j r hj hr
    exact ⟨t1, by rw [hs]; omega, (ne r t2).trans t3⟩
  · show va_up hp.2 hp.1 c hp.1 = c
    simp only [va_up]
    rw [if_pos trivial]
/-- a row of one's own, neither of 8 nor of 11, is written to -/
theorem ms_s {A : qA} {S : sM} {hp hp' : qq_H} {r n : Nat} {f : Nat → Int32} {c : qq_C} (h : ms_M A S hp) (hr : hp.2 r = .inl (0, n, .inl f)) (h8 : 8 ≠ n) (h11 : 11 ≠ n) (hl : r < hp.1) (e : (hp.1, va_up hp.2 r c) = hp') (h80 : 80 ≤ r) : ms_M A S hp' ∧ hp'.2 r = c ∧ r < hp'.1 ∧ ∀ (A0 : qA) (hp0 : qq_H), fr A0 hp0 hp → hp0.1 ≤ r → fr A0 hp0 hp' := by
  subst e
  have ne : ∀ k, k ≠ r → va_up hp.2 r c k = hp.2 k := fun k hk => by simp only [va_up]; rw [if_neg hk]
  obtain ⟨h1, h2, h3, h4, h5, h6, h7, ⟨pf, r1, r1'⟩, r2, r3, lg, r5, r6⟩ := h
  have nr : ∀ q (g : Nat → Int32), hp.2 q = c_row g → q ≠ r := fun q g hq => row_ne hq hr h11.symm
  refine ⟨⟨qq_exm h1 (Nat.le_refl _) (fun k hk => ne k (by omega)), h2, (ne _ (Ne.symm (row_no hr h3))).trans h3, (ne _ (row_ne h4 hr h8.symm)).trans h4, (ne _ (row_ne h5 hr h8.symm)).trans h5, (ne _ (Ne.symm (row_nt hr h6 (by decide)))).trans h6, h7, ⟨pf, (ne _ (Ne.symm (row_nt hr r1 (by decide)))).trans r1, r1'⟩, fun j hj => (ne _ (nr _ _ (r2 j hj))).trans (r2 j hj), (ne _ (nr _ _ r3)).trans r3, lg, (ne _ (Ne.symm (row_nt hr r5 (by decide)))).trans r5, fun j q hj hq => ?_⟩, ?_, hl, fun A0 hp0 f0 hf => ⟨f0.1, fun j hj d1 d2 d3 d4 d5 => (ne j (fun e => by omega)).trans (f0.2 j hj d1 d2 d3 d4 d5)⟩⟩
  · obtain ⟨t1, t2, t3⟩ := r6 j q hj hq
    exact ⟨t1, t2, (ne q (nr _ _ t3)).trans t3⟩
  · simp only [va_up]
    rw [if_pos trivial]
/-- null, or a row -/
def om {α : Type} (o : Option qR) (a : α) (b : qR → α) : α := match o with
  | none => a
  | some f => b f
theorem om_n {α : Type} {o : Option qR} {a : α} {b : qR → α} (h : o = none) : om o a b = a := by rw [h]; rfl
theorem om_s {α : Type} {o : Option qR} {a : α} {b : qR → α} {f : qR} (h : o = some f) : om o a b = b f := by rw [h]; rfl
theorem ms_s8 {A : qA} {S : sM} {hp hp' : qq_H} {r : Nat} {f : Nat → Int32} {c : qq_C} (h : ms_M A S hp) (hr : hp.2 r = .inl (0, 8, .inl f)) (hA : ms_A A r) (hl : r < hp.1) (e : (hp.1, va_up hp.2 r c) = hp') (h80 : 80 ≤ r) : ms_M A S hp' ∧ hp'.2 r = c ∧ r < hp'.1 ∧ ∀ (A0 : qA) (hp0 : qq_H), fr A0 hp0 hp → hp0.1 ≤ r → fr A0 hp0 hp' := by
  subst e
  have ne : ∀ k, k ≠ r → va_up hp.2 r c k = hp.2 k := fun k hk => by simp only [va_up]; rw [if_neg hk]
  obtain ⟨h1, h2, h3, h4, h5, h6, h7, ⟨pf, r1, r1'⟩, r2, r3, lg, r5, r6⟩ := h
  obtain ⟨b1, b2, b3, b4⟩ := hA
  have nr : ∀ q (g : Nat → Int32), hp.2 q = c_row g → q ≠ r := fun q g hq => row_ne hq hr (show (8 : Nat) ≠ 11 by decide)
  refine ⟨⟨qq_exm h1 (Nat.le_refl _) (fun k hk => ne k (by omega)), h2, (ne _ (by omega)).trans h3, (ne _ (by omega)).trans h4, (ne _ (by omega)).trans h5, (ne _ (by omega)).trans h6, h7, ⟨pf, (ne _ (by omega)).trans r1, r1'⟩, fun j hj => (ne _ (nr _ _ (r2 j hj))).trans (r2 j hj), (ne _ (by omega)).trans r3, lg, (ne _ (by omega)).trans r5, fun j q hj hq => ?_⟩, ?_, hl, fun A0 hp0 f0 hf => ⟨f0.1, fun j hj d1 d2 d3 d4 d5 => (ne j (fun e => by omega)).trans (f0.2 j hj d1 d2 d3 d4 d5)⟩⟩
  · obtain ⟨t1, t2, t3⟩ := r6 j q hj hq
    exact ⟨t1, t2, (ne q (nr _ _ t3)).trans t3⟩
  · simp only [va_up]
    rw [if_pos trivial]
/-- a cell above the three, or below them all, stays -/
theorem fr_hi {A : qA} {hp hp' : qq_H} {r : Nat} {c : qq_C} (f : fr A hp hp') (hl : r < hp.1) (hA : ms_A A r) (hr : hp.2 r = c) : hp'.2 r = c := by
  obtain ⟨b1, b2, b3, b4⟩ := hA
  exact (f.2 r hl (by omega) (by omega) (by omega) (by omega) (by omega)).trans hr
def lo3 (A : qA) (r : Nat) : Prop := 86 < r ∧ r < A.1 ∧ r < A.2.1 ∧ r < A.2.2
theorem fr_lo {A : qA} {hp hp' : qq_H} {r : Nat} {c : qq_C} (f : fr A hp hp') (hl : r < hp.1) (hA : lo3 A r) (hr : hp.2 r = c) : hp'.2 r = c := by
  obtain ⟨b0, b1, b2, b3⟩ := hA
  exact (f.2 r hl (by omega) (by omega) (by omega) (by omega) (by omega)).trans hr
/-- .. with new ones for the three -/
theorem fr_f {A A' : qA} {a b c : qq_H} (hn : a.1 ≤ A'.1 ∧ a.1 ≤ A'.2.1 ∧ a.1 ≤ A'.2.2) (h1 : fr A a b) (h2 : fr A' b c) : fr A a c := ⟨Nat.le_trans h1.1 h2.1, fun j h d e f g i => (h2.2 j (Nat.lt_of_lt_of_le h h1.1) d e (by omega) (by omega) (by omega)).trans (h1.2 j h d e f g i)⟩
