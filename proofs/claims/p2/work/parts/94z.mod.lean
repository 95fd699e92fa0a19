/-! the model's rows and its state -/
abbrev qR : Type := Nat → Int32
def c_row (f : qR) : qq_C := .inl (0, 11, .inl f)
/-- e to the quarters: the product's row, those above, those below -/
def pwS : Nat → qR × qR × qR → qR × qR × qR
  | 0, s => s
  | n + 1, s =>
    ((r_X7_times (r_X7_times (pwS n s).1 (pwS n s).2.1 (r_X7_root 0).1).1 (pwS n s).2.2 (r_X7_root 1).1).1,
     (r_X7_times (pwS n s).1 (pwS n s).2.1 (r_X7_root 0).1).2,
     (r_X7_times (r_X7_times (pwS n s).1 (pwS n s).2.1 (r_X7_root 0).1).1 (pwS n s).2.2 (r_X7_root 1).1).2)
def pw0 : qR × qR × qR := (fun _ => 0, r_X7_quarterOf 4, r_X7_quarterOf 4)
def PW (j : Nat) : qR := if 160 ≤ j then (pwS (j - 160) pw0).2.1 else (pwS (160 - j) pw0).2.2
def TWO : qR := (r_X7_ratioLog 1 3).2.2
/-- where the powers' rows are -/
def pr (j : Nat) : Nat := if j = 160 then 94 else if 160 < j then 99 + 2 * (j - 161) else 100 + 2 * (159 - j)
theorem pr_in {j : Nat} (h : j < 321) : 94 ≤ pr j ∧ pr j < 419 := by
  unfold pr
  split
  · omega
  · split <;> omega
abbrev sM : Type := qR × qR × qR × Int32 × Int32 × Int32 × Int32
def ms_ob (S : sM) : List Value := [.ref 85, .ref 86, .ref 89, .ref 90, .ref 91, .ref 92, .ref 93, .int S.2.2.2.1, .int S.2.2.2.2.1, .int S.2.2.2.2.2.1, .int S.2.2.2.2.2.2]
/-- LG: what the rows of logs hold -/
def ms_R (LG : Nat → qR) (hp : qq_H) : Prop := hp.2 85 = .inl (4, 321, .inr (.inr (.inr (.inr (fun j => some (pr j)))))) ∧ (∀ j, j < 321 → hp.2 (pr j) = c_row (PW j)) ∧ hp.2 89 = c_row TWO ∧ (∃ p : qR, hp.2 90 = .inl (0, 22, .inl p)) ∧ ∃ lg : Nat → Option Nat, hp.2 86 = .inl (4, 164, .inr (.inr (.inr (.inr lg)))) ∧ ∀ j r, j < 164 → lg j = some r → 94 ≤ r ∧ r < hp.1 ∧ hp.2 r = c_row (LG j)
def ms_M (LG : Nat → qR) (S : sM) (hp : qq_H) : Prop := qq_ex hp ∧ 419 ≤ hp.1 ∧ hp.2 84 = .inr (4, ms_ob S) ∧ hp.2 91 = .inl (0, 8, .inl S.1) ∧ hp.2 92 = .inl (0, 8, .inl S.2.1) ∧ hp.2 93 = .inl (2, 8, .inl S.2.2.1) ∧ ms_R LG hp
/-- the cells of the model that change -/
def ms_d (j : Nat) : Prop := j = 84 ∨ j = 86 ∨ (90 ≤ j ∧ j ≤ 93)
def sm_M (hp hp' : qq_H) : Prop := hp.1 ≤ hp'.1 ∧ ∀ j, j < hp.1 → ¬ ms_d j → hp'.2 j = hp.2 j
theorem smM_r (hp : qq_H) : sm_M hp hp := ⟨Nat.le_refl _, fun _ _ _ => rfl⟩
theorem smM_t {a b c : qq_H} (h1 : sm_M a b) (h2 : sm_M b c) : sm_M a c := ⟨Nat.le_trans h1.1 h2.1, fun j h d => (h2.2 j (Nat.lt_of_lt_of_le h h1.1) d).trans (h1.2 j h d)⟩
