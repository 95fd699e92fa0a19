/-! what a number becomes -/
def row3 (a b c : Int32) : qR := upd (upd (upd (fun _ => 0) (0 : Int32).toNatClampNeg a) (1 : Int32).toNatClampNeg b) (2 : Int32).toNatClampNeg c
theorem row3_e (a b c : Int32) : row3 a b c (0 : Int32).toNatClampNeg = a ∧ row3 a b c (1 : Int32).toNatClampNeg = b ∧ row3 a b c (2 : Int32).toNatClampNeg = c := by
  have e0 : (0 : Int32).toNatClampNeg = 0 := rfl
  have e1 : (1 : Int32).toNatClampNeg = 1 := rfl
  have e2 : (2 : Int32).toNatClampNeg = 2 := rfl
  unfold row3
  rw [e0, e1, e2]
  refine ⟨?_, ?_, ?_⟩
  · rw [upd_ne _ _ (by decide), upd_ne _ _ (by decide), upd_same]
  · rw [upd_ne _ _ (by decide), upd_same]
  · rw [upd_same]
def bcP (fo : qR) : Prop := vq (fo (0 : Int32).toNatClampNeg) (fo (1 : Int32).toNatClampNeg) (fo (2 : Int32).toNatClampNeg) ∨ (fo (0 : Int32).toNatClampNeg = 5 ∧ (fo (1 : Int32).toNatClampNeg).toInt ≤ -5 ∧ fo (2 : Int32).toNatClampNeg = 0)
def bcO (o : Option qR) : Prop := ∀ fo, o = some fo → bcP fo
theorem bcO_n : bcO none := fun _ h => nomatch h
theorem bcO_i {c : Prop} [Decidable c] {a b : Option qR} (ha : c → bcO a) (hb : ¬ c → bcO b) : bcO (if c then a else b) := by
  by_cases h : c
  · rw [if_pos h]; exact ha h
  · rw [if_neg h]; exact hb h
theorem bcO_s {a b c : Int32} (h : vq a b c) : bcO (some (row3 a b c)) := fun fo e => by
  obtain ⟨e0, e1, e2⟩ := row3_e a b c
  rw [← Option.some.inj e]
  unfold bcP
  rw [e0, e1, e2]
  exact Or.inl h
theorem bcO_5 {b : Int32} (h : b.toInt ≤ -5) : bcO (some (row3 5 b 0)) := fun fo e => by
  obtain ⟨e0, e1, e2⟩ := row3_e 5 b 0
  rw [← Option.some.inj e]
  unfold bcP
  rw [e0, e1, e2]
  exact Or.inr ⟨rfl, h, rfl⟩
theorem bc_of {how u : Int32} (S : sM) : bcO (r_X7_ofEndless how u S) := by
  unfold r_X7_ofEndless
  exact bcO_i (fun _ => bcO_s (a := 1) (b := 0) (c := 0) (vq_e (Or.inl rfl))) (fun _ => bcO_i (fun _ => bcO_s (a := 0) (b := 0) (c := 0) (vq_z (Or.inl rfl))) (fun _ => bcO_i (fun _ => bcO_s (a := 0) (b := -4) (c := 0) (Or.inl ⟨rfl, by decide, by decide, Or.inl rfl⟩)) (fun _ => bcO_n)))
theorem bc_om {o : Option qR} (h : bcO o) : bcO (om o none (fun fo => some fo)) := by
  cases o with
  | none => exact bcO_n
  | some x => exact h
def h13 (how : Int32) : Prop := how = 1 ∨ how = 2 ∨ how = 3
theorem bc_r {how q u : Int32} (hh : h13 how) (hq : ¬ q = 0) (hi : ¬ f_X7_isIn q (t_le how.toNatClampNeg) (t_gr how.toNatClampNeg) = 0) : bcO (some (row3 (how + 1) q 0)) := by
  obtain ⟨h1, h2⟩ := qx_in hi
  rw [Int32.lt_iff_toInt_lt] at h1 h2
  rcases hh with rfl | rfl | rfl
  · have e1 : (t_le (1 : Int32).toNatClampNeg).toInt = -160 := rfl
    have e2 : (t_gr (1 : Int32).toNatClampNeg).toInt = 160 := rfl
    exact bcO_s (Or.inr (Or.inr (Or.inl ⟨rfl, by omega, by omega, hq, rfl⟩)))
  · have e1 : (t_le (2 : Int32).toNatClampNeg).toInt = -128 := rfl
    have e2 : (t_gr (2 : Int32).toNatClampNeg).toInt = 144 := rfl
    exact bcO_s (Or.inr (Or.inr (Or.inr (Or.inl ⟨rfl, by omega, by omega, hq, rfl⟩))))
  · have e1 : (t_le (3 : Int32).toNatClampNeg).toInt = -3 := rfl
    have e2 : (t_gr (3 : Int32).toNatClampNeg).toInt = 160 := rfl
    exact bcO_s (Or.inr (Or.inr (Or.inr (Or.inr (Or.inl ⟨rfl, by omega, by omega, hq, rfl⟩)))))
theorem vq_4 {q u : Int32} (h : vq 4 q u) : -3 ≤ q.toInt ∧ q.toInt ≤ 160 ∧ ¬ q = 0 := by
  rcases h with ⟨h, _⟩ | ⟨h, _⟩ | ⟨h, _⟩ | ⟨h, _⟩ | ⟨_, a, b, c, _⟩ | ⟨h, _⟩ | ⟨h, _⟩
  · exact absurd h (by decide)
  · exact absurd h (by decide)
  · exact absurd h (by decide)
  · exact absurd h (by decide)
  · exact ⟨a, b, c⟩
  · exact absurd h (by decide)
  · exact absurd h (by decide)
theorem vq_3 {q u : Int32} (h : vq 3 q u) : -128 ≤ q.toInt ∧ q.toInt ≤ 144 := by
  rcases h with ⟨h, _⟩ | ⟨h, _⟩ | ⟨h, _⟩ | ⟨_, a, b, c, _⟩ | ⟨h, _⟩ | ⟨h, _⟩ | ⟨h, _⟩
  · exact absurd h (by decide)
  · exact absurd h (by decide)
  · exact absurd h (by decide)
  · exact ⟨a, b⟩
  · exact absurd h (by decide)
  · exact absurd h (by decide)
  · exact absurd h (by decide)
theorem bc_33 {kd q u : Int32} (h : vq kd q u) (h3 : kd = 3) : ((-4 : Int32) ≤ q → bcO (some (row3 0 q 0))) ∧ (¬ (-4 : Int32) ≤ q → bcO (some (row3 5 q 0))) := by
  subst h3
  obtain ⟨a, b⟩ := vq_3 h
  have e4 : (-4 : Int32).toInt = -4 := rfl
  refine ⟨fun z => ?_, fun z => ?_⟩
  · rw [Int32.le_iff_toInt_le] at z
    exact bcO_s (Or.inl ⟨rfl, by omega, by omega, Or.inl rfl⟩)
  · rw [Int32.le_iff_toInt_le] at z
    exact bcO_5 (by omega)
theorem bc_v {how kd q u : Int32} (S : sM) (hh : h13 how) (h : vq kd q u) : bcO (r_X7_become how kd q u S) := by
  unfold r_X7_become
  exact bcO_i (fun _ => bc_om (bc_of S)) (fun _ => bcO_i (fun hk => bcO_i (fun hq => bcO_i (fun _ => bcO_s (a := 0) (b := 4) (c := 0) (Or.inl ⟨rfl, by decide, by decide, Or.inl rfl⟩)) (fun _ => bcO_i (fun _ => bcO_s (a := 0) (b := 0) (c := 0) (vq_z (Or.inl rfl))) (fun _ => bcO_s (a := 0) (b := 0) (c := 1) (vq_z (Or.inr rfl))))) (fun hq => bcO_i (fun _ => bcO_i (fun _ => bcO_i (fun _ => bcO_s (a := 1) (b := 0) (c := 1) (vq_e (Or.inr rfl))) (fun _ => bcO_i (fun _ => bcO_i (fun _ => bcO_n) (fun hi => bc_r (u := u) hh hq hi)) (fun _ => bcO_n))) (fun _ => bcO_i (fun _ => bcO_i (fun _ => bcO_n) (fun hi => bc_r (u := u) hh hq hi)) (fun _ => bcO_n))) (fun _ => bcO_n))) (fun _ => bcO_i (fun _ => bcO_n) (fun _ => bcO_i (fun _ => bcO_n) (fun _ => bcO_i (fun _ => bcO_i (fun h4 => by
      subst h4
      obtain ⟨a, b, c⟩ := vq_4 h
      exact bcO_s (a := 6) (b := q) (c := 0) (Or.inr (Or.inr (Or.inr (Or.inr (Or.inr (Or.inr ⟨rfl, a, b, c, rfl⟩))))))) (fun _ => bcO_i (fun _ => bcO_i (fun h3 => bcO_i (bc_33 h h3).1 (bc_33 h h3).2) (fun _ => bcO_n)) (fun _ => bcO_n))) (fun _ => bcO_i (fun _ => bcO_i (fun h3 => bcO_i (bc_33 h h3).1 (bc_33 h h3).2) (fun _ => bcO_n)) (fun _ => bcO_n))))))
def bvO (o : Option qR) : Prop := ∀ fo, o = some fo → vq (fo (0 : Int32).toNatClampNeg) (fo (1 : Int32).toNatClampNeg) (fo (2 : Int32).toNatClampNeg)
theorem bcs_v {how c : Int32} {S : sM} (hh : h13 how) (h : IM S) (hc : vp_in c 8) : bvO (r_X7_becomes how c S) := by
  have hb := bc_v S hh (im_at h hc)
  unfold r_X7_becomes
  cases e : r_X7_become how (S.1 c.toNatClampNeg) (S.2.1 c.toNatClampNeg) (S.2.2.1 c.toNatClampNeg) S with
  | none =>
    intro fo hf
    have hf2 : (if r_X7_isBackN S = 0 then none else none) = some fo := hf
    split at hf2 <;> exact nomatch hf2
  | some x =>
    have hx := hb x e
    intro fo hf
    have hf2 : (if r_X7_isBack x S = 0 then some x else if (-32) ≤ (x (1 : Int32).toNatClampNeg) then some x else none) = some fo := hf
    by_cases hk : x (0 : Int32).toNatClampNeg = 5
    · have h1 : ¬ r_X7_isBack x S = 0 := by unfold r_X7_isBack; rw [if_pos hk]; decide
      rw [if_neg h1] at hf2
      by_cases h32 : (-32) ≤ (x (1 : Int32).toNatClampNeg)
      · rw [if_pos h32] at hf2
        rw [← Option.some.inj hf2]
        rcases hx with hx | ⟨a, b, d⟩
        · exact hx
        · rw [Int32.le_iff_toInt_le] at h32
          have e32 : (-32 : Int32).toInt = -32 := rfl
          rw [a, d]
          exact Or.inr (Or.inr (Or.inr (Or.inr (Or.inr (Or.inl ⟨rfl, by omega, b, rfl⟩)))))
      · rw [if_neg h32] at hf2
        exact nomatch hf2
    · have h1 : r_X7_isBack x S = 0 := by unfold r_X7_isBack; rw [if_neg hk]
      rw [if_pos h1] at hf2
      rw [← Option.some.inj hf2]
      rcases hx with hx | ⟨a, _⟩
      · exact hx
      · exact absurd a hk
theorem im_bc {S : sM} {fo : qR} (d : Int32) (h : IM S) (hf : vq (fo (0 : Int32).toNatClampNeg) (fo (1 : Int32).toNatClampNeg) (fo (2 : Int32).toNatClampNeg)) : (fo (2 : Int32).toNatClampNeg = 1 → IM (r_X7_come d (fo (0 : Int32).toNatClampNeg) (fo (1 : Int32).toNatClampNeg) 1 S).2) ∧ (¬ fo (2 : Int32).toNatClampNeg = 1 → IM (r_X7_come d (fo (0 : Int32).toNatClampNeg) (fo (1 : Int32).toNatClampNeg) 0 S).2) := by
  refine ⟨fun e => im_come h (by rw [e] at hf; exact hf), fun e => ?_⟩
  rcases vq_u hf with z | z
  · exact im_come h (by rw [z] at hf; exact hf)
  · exact absurd z e
theorem im_made {S : sM} {how : Int32} (c d : Int32) (hh : h13 how) (h : IM S) : IM (r_X7_made how c d S).2 := by
  unfold r_X7_made
  refine im_ite (fun hc => im_ite (fun _ => im_ite (fun _ => ?_) (fun _ => im_ref h)) (fun _ => im_ite (fun _ => im_ref h) (fun _ => im_ref h))) (fun _ => im_ite (fun _ => im_ref h) (fun _ => im_ref h))
  have hb := bcs_v (how := how) hh (im_ref (i := 0) (a := 0) h) (qx_cell hc)
  cases e : r_X7_becomes how c (r_X7_isRefused 0 0 S).2 with
  | none => exact im_rf (im_ref h)
  | some fo =>
    have hf := im_bc d (im_ref (i := 0) (a := 0) h) (hb fo e)
    exact im_ite hf.1 hf.2
theorem im_all37 {how : Int32} (b : Int32) (hh : h13 how) : ∀ (fu : Nat) (mn k : Int32) (S : sM), IM S → ¬ k < 0 → IM (lf_X7_all_37 how b fu mn k S).2.2
  | 0, _, _, _, h, _ => h
  | fu + 1, mn, k, S, h, hk => by
    rw [lf_X7_all_37]
    by_cases zc : 8 ≤ k
    · rw [if_pos zc]; exact h
    · rw [if_neg zc]
      have hb := bcs_v hh h (qm_in8 hk zc)
      have hk2 := qm_pos hk zc
      cases e : r_X7_becomes how k S with
      | none => exact im_all37 b hh fu mn (k + 1) S h hk2
      | some fo =>
        have hf := im_bc k h (hb fo e)
        by_cases z : fo (2 : Int32).toNatClampNeg = 1
        · show IM (if fo (2 : Int32).toNatClampNeg = 1 then _ else _ : Int32 × Int32 × sM).2.2
          rw [if_pos z]
          exact im_all37 b hh fu (mn + 1) (k + 1) _ (hf.1 z) hk2
        · show IM (if fo (2 : Int32).toNatClampNeg = 1 then _ else _ : Int32 × Int32 × sM).2.2
          rw [if_neg z]
          exact im_all37 b hh fu (mn + 1) (k + 1) _ (hf.2 z) hk2
theorem h13_in {how : Int32} (h : ¬ f_X7_isIn how 1 3 = 0) : h13 how := by
  obtain ⟨h1, h2⟩ := qx_in h
  rw [Int32.lt_iff_toInt_lt] at h1 h2
  have e1 : (1 : Int32).toInt = 1 := rfl
  have e2 : (2 : Int32).toInt = 2 := rfl
  have e3 : (3 : Int32).toInt = 3 := rfl
  rcases (by omega : how.toInt = 1 ∨ how.toInt = 2 ∨ how.toInt = 3) with z | z | z
  · exact Or.inl (Int32.toInt_inj.mp (z.trans e1.symm))
  · exact Or.inr (Or.inl (Int32.toInt_inj.mp (z.trans e2.symm)))
  · exact Or.inr (Or.inr (Int32.toInt_inj.mp (z.trans e3.symm)))
theorem im_all {S : sM} (how : Int32) (h : IM S) : IM (r_X7_all how S).2 := by
  unfold r_X7_all
  exact im_ite (fun _ => im_kind0 h rfl rfl rfl) (fun hi => im_kind0 (im_all37 S.2.2.2.1 (h13_in hi) 9 0 0 (S.1, S.2.1, S.2.2.1, S.2.2.2.1, S.2.2.2.2.1, S.2.2.2.2.2.1, 0) (im_kind0 h rfl rfl rfl) (by decide)) rfl rfl rfl)
