/-! what is learnt of the model's checks; the cells that can be -/
theorem vp_d {i : Int32} {n : Nat} (h : (!(decide (i < 0)) && decide (i.toNatClampNeg < n)) = true) : vp_in i n := by
  rw [Bool.and_eq_true, Bool.not_eq_true', decide_eq_false_iff_not, decide_eq_true_eq] at h
  exact fun e => e.elim h.1 (Nat.not_le.mpr h.2)
theorem qm_i01 {c : Prop} [Decidable c] {a b : Int32 × sM} (ha : a.1 = 0 ∨ a.1 = 1) (hb : b.1 = 0 ∨ b.1 = 1) : (if c then a else b).1 = 0 ∨ (if c then a else b).1 = 1 := by
  by_cases h : c
  · rw [if_pos h]; exact ha
  · rw [if_neg h]; exact hb
theorem qx_ref {i a : Int32} {S : sM} (h : (r_X7_isRefused i a S).1 = 0) : i = 0 := by
  by_cases e : i = 0
  · exact e
  · rw [r_X7_isRefused, if_neg e] at h
    exact absurd h (by show ¬ (1 : Int32) = 0; decide)
theorem qx_1 {a : Int32} {S : sM} : ¬ (r_X7_isRefused (1 : Int32) a S).1 = 0 := fun h => absurd (qx_ref h) (by decide)
theorem qx_2 {i : Int32} {S : sM} : ¬ (r_X7_isRefused i (1 : Int32) S).1 = 0 := fun h => by
  have e := qx_ref h
  rw [r_X7_isRefused, if_pos e, if_neg (by decide)] at h
  exact absurd h (by show ¬ (1 : Int32) = 0; decide)
theorem qx_0 {S : sM} : (r_X7_isRefused (0 : Int32) (0 : Int32) S).1 = 0 := by
  rw [r_X7_isRefused, if_pos rfl, if_pos rfl]
theorem bz_X7_isRefused {i a : Int32} {S : sM} : (r_X7_isRefused i a S).1 = 0 ∨ (r_X7_isRefused i a S).1 = 1 := by
  unfold r_X7_isRefused
  exact qm_i01 (qm_i01 (Or.inl rfl) (Or.inr rfl)) (Or.inr rfl)
theorem qx_an {i : Int32} {S : sM} (h : ¬ (r_X7_isArgument i S).1 = 0) : ¬ i = 0 := fun e => by
  rw [r_X7_isArgument, if_pos e] at h
  exact h e
theorem qx_a1 {S : sM} : ¬ (r_X7_isArgument (1 : Int32) S).1 = 0 := by
  rw [r_X7_isArgument, if_neg (by decide)]
  show ¬ (1 : Int32) = 0
  decide
theorem qx_a0 {S : sM} : (r_X7_isArgument (0 : Int32) S).1 = 0 := by
  rw [r_X7_isArgument, if_pos rfl]
theorem bz_X7_isArgument {i : Int32} {S : sM} (h : i = 0 ∨ i = 1) : (r_X7_isArgument i S).1 = 0 ∨ (r_X7_isArgument i S).1 = 1 := by
  unfold r_X7_isArgument
  exact qm_i01 h h
theorem qx_in {v a b : Int32} (h : ¬ f_X7_isIn v a b = 0) : ¬ v < a ∧ ¬ b < v := by
  refine ⟨fun e => h ?_, fun e => h ?_⟩
  · rw [f_X7_isIn, if_pos e]
  · by_cases e1 : v < a
    · rw [f_X7_isIn, if_pos e1]
    · rw [f_X7_isIn, if_neg e1, if_pos e]
theorem qx_cell {c : Int32} (h : f_X7_isNoCell c = 0) : vp_in c 8 := by
  rw [f_X7_isNoCell] at h
  by_cases e : f_X7_isIn c 0 7 = 0
  · rw [if_pos e] at h
    exact absurd h (by decide)
  · obtain ⟨e1, e2⟩ := qx_in e
    refine qm_in8 e1 ?_
    rw [Int32.lt_iff_toInt_lt] at e2
    rw [Int32.le_iff_toInt_le]
    have a7 : (7 : Int32).toInt = 7 := rfl
    have a8 : (8 : Int32).toInt = 8 := rfl
    omega
theorem qx_in4 {c : Int32} (h : ¬ f_X7_isIn c 0 3 = 0) : vp_in c 4 := by
  obtain ⟨e1, e2⟩ := qx_in h
  rw [Int32.lt_iff_toInt_lt] at e1 e2
  rw [vp_in_iff]
  have a7 : (3 : Int32).toInt = 3 := rfl
  have a0 : (0 : Int32).toInt = 0 := rfl
  omega
theorem qx_in4b {c : Int32} (h : ¬ f_X7_isIn c 1 3 = 0) : vp_in c 4 := by
  obtain ⟨e1, e2⟩ := qx_in h
  rw [Int32.lt_iff_toInt_lt] at e1 e2
  rw [vp_in_iff]
  have a7 : (3 : Int32).toInt = 3 := rfl
  have a0 : (1 : Int32).toInt = 1 := rfl
  omega
/-- 256 - k, for k of -62 to 90 -/
theorem qx_pl {k : Int32} (h : ¬ f_X7_isIn k (-62) 90 = 0) : 0 ≤ (256 - k).toInt ∧ (256 - k).toInt ≤ 1000 := by
  obtain ⟨e1, e2⟩ := qx_in h
  rw [Int32.lt_iff_toInt_lt] at e1 e2
  have a7 : (90 : Int32).toInt = 90 := rfl
  have a0 : (-62 : Int32).toInt = -62 := rfl
  have a2 : (256 : Int32).toInt = 256 := rfl
  rw [Int32.toInt_sub, a2, Int.bmod_eq_of_le (by omega) (by omega)]
  omega
theorem vp_lt {i : Int32} {n : Nat} (h : vp_in i n) : i.toNatClampNeg < n := Nat.lt_of_not_le fun e => h (Or.inr e)
/-- a cell's kind, quarter, side that can be -/
def vq (kd q u : Int32) : Prop :=
  (kd = 0 ∧ -160 ≤ q.toInt ∧ q.toInt ≤ 160 ∧ (u = 0 ∨ (u = 1 ∧ q = 0))) ∨ (kd = 1 ∧ q = 0 ∧ (u = 0 ∨ u = 1)) ∨
  (kd = 2 ∧ -160 ≤ q.toInt ∧ q.toInt ≤ 160 ∧ ¬ q = 0 ∧ u = 0) ∨ (kd = 3 ∧ -128 ≤ q.toInt ∧ q.toInt ≤ 144 ∧ ¬ q = 0 ∧ u = 0) ∨
  (kd = 4 ∧ -3 ≤ q.toInt ∧ q.toInt ≤ 160 ∧ ¬ q = 0 ∧ u = 0) ∨ (kd = 5 ∧ -32 ≤ q.toInt ∧ q.toInt ≤ -5 ∧ u = 0) ∨
  (kd = 6 ∧ -3 ≤ q.toInt ∧ q.toInt ≤ 160 ∧ ¬ q = 0 ∧ u = 0)
def IM (S : sM) : Prop := ∀ c : Nat, c < 8 → vq (S.1 c) (S.2.1 c) (S.2.2.1 c)
/-- where a true number is had by -/
def tpre (kd q : Int32) : Prop := (kd = 2 → -160 ≤ q.toInt ∧ q.toInt ≤ 160) ∧ (kd = 3 → -160 ≤ q.toInt ∧ q.toInt ≤ 160) ∧ (kd = 4 → -3 ≤ q.toInt ∧ q.toInt ≤ 160)
theorem vq_t {kd q u : Int32} (h : vq kd q u) : tpre kd q := by
  rcases h with ⟨rfl, h1, h2, h3⟩ | ⟨rfl, h1, h2⟩ | ⟨rfl, h1, h2, h3⟩ | ⟨rfl, h1, h2, h3⟩ | ⟨rfl, h1, h2, h3⟩ | ⟨rfl, h1, h2, h3⟩ | ⟨rfl, h1, h2, h3⟩
  · exact ⟨fun e => absurd e (by decide), fun e => absurd e (by decide), fun e => absurd e (by decide)⟩
  · exact ⟨fun e => absurd e (by decide), fun e => absurd e (by decide), fun e => absurd e (by decide)⟩
  · exact ⟨fun _ => ⟨h1, h2⟩, fun e => absurd e (by decide), fun e => absurd e (by decide)⟩
  · exact ⟨fun e => absurd e (by decide), fun _ => ⟨by omega, by omega⟩, fun e => absurd e (by decide)⟩
  · exact ⟨fun e => absurd e (by decide), fun e => absurd e (by decide), fun _ => ⟨h1, h2⟩⟩
  · exact ⟨fun e => absurd e (by decide), fun e => absurd e (by decide), fun e => absurd e (by decide)⟩
  · exact ⟨fun e => absurd e (by decide), fun e => absurd e (by decide), fun e => absurd e (by decide)⟩
theorem im_t {S : sM} {c : Int32} (h : IM S) (hc : vp_in c 8) : tpre (S.1 c.toNatClampNeg) (S.2.1 c.toNatClampNeg) := vq_t (h _ (vp_lt hc))
theorem im_ref {S : sM} {i a : Int32} (h : IM S) : IM (r_X7_isRefused i a S).2 := by
  unfold r_X7_isRefused
  by_cases e : i = 0
  · rw [if_pos e]
    by_cases e2 : a = 0
    · rw [if_pos e2]; exact h
    · rw [if_neg e2]; exact h
  · rw [if_neg e]; exact h
theorem im_arg {S : sM} {i : Int32} (h : IM S) : IM (r_X7_isArgument i S).2 := by
  unfold r_X7_isArgument
  by_cases e : i = 0
  · rw [if_pos e]; exact h
  · rw [if_neg e]; exact h
theorem im_kind0 {S S' : sM} (h : IM S) (e1 : S'.1 = S.1) (e2 : S'.2.1 = S.2.1) (e3 : S'.2.2.1 = S.2.2.1) : IM S' := fun c hc => by
  rw [e1, e2, e3]
  exact h c hc
theorem ref_1 (i a : Int32) (S : sM) : (r_X7_isRefused i a S).2.1 = S.1 ∧ (r_X7_isRefused i a S).2.2.1 = S.2.1 ∧ (r_X7_isRefused i a S).2.2.2.1 = S.2.2.1 := by
  unfold r_X7_isRefused
  by_cases e : i = 0
  · rw [if_pos e]
    by_cases e2 : a = 0
    · rw [if_pos e2]; exact ⟨rfl, rfl, rfl⟩
    · rw [if_neg e2]; exact ⟨rfl, rfl, rfl⟩
  · rw [if_neg e]; exact ⟨rfl, rfl, rfl⟩
theorem qm_k8 {k : Int32} (h : vp_in k 8) : (k.toInt - (0 : Int32).toInt).toNat < 9 := by
  rw [vp_in_iff] at h
  have e : (0 : Int32).toInt = 0 := rfl
  omega
theorem qm_inlt {n k : Int32} (h0 : ¬ n < 0) (h1 : ¬ k ≤ n) (hk : vp_in k 8) : vp_in n 8 := by
  rw [vp_in_iff] at hk ⊢
  have a := qm_z h0
  have b := qm_lt h1
  omega
theorem qm_sh31 (x : Int32) : (x >>> (31 &&& 31 : Int32)).toInt ≤ 0 := by
  have h1 := Int32.toInt_lt x
  have h2 := Int32.le_toInt x
  have e : (x >>> (31 &&& 31 : Int32)).toInt = x.toInt >>> 31 := by
    show (x >>> (31 : Int32)).toBitVec.toInt = _
    rw [Int32.toBitVec_shiftRight]
    show (x.toBitVec.sshiftRight' ((31 : Int32).toBitVec.smod 32)).toInt = _
    have e2 : (31 : Int32).toBitVec.smod 32 = 31#32 := by decide
    rw [e2]
    show (x.toBitVec.sshiftRight 31).toInt = _
    rw [BitVec.toInt_sshiftRight]
    rfl
  rw [e, Int.shiftRight_eq_div_pow]
  have e3 : ((2 : Nat) ^ 31 : Nat) = (2147483648 : Int) := by decide
  omega
theorem qm_sh1 {x h : Int32} (hb : 0 ≤ h.toInt ∧ h.toInt ≤ 31) (c : ¬ (x >>> (h &&& 31)) ≤ 1) : h.toInt < 31 := by
  rcases Int.lt_or_eq_of_le hb.2 with h1 | e
  · exact h1
  refine absurd ?_ c
  have e2 : h = 31 := Int32.toInt_inj.mp e
  subst e2
  rw [Int32.le_iff_toInt_le]
  have h3 := qm_sh31 x
  have e1 : (1 : Int32).toInt = 1 := rfl
  rw [e1]
  exact Int.le_trans h3 (by decide)
theorem qm_shi {h : Int32} (hb : 0 ≤ h.toInt ∧ h.toInt ≤ 31) : (h + 1).toInt = h.toInt + 1 := by
  have e1 : (1 : Int32).toInt = 1 := rfl
  rw [qm_iadd (by omega) (by omega) (by decide) (by decide), e1]
theorem qm_shs {x h : Int32} (hb : 0 ≤ h.toInt ∧ h.toInt ≤ 31) (c : ¬ (x >>> (h &&& 31)) ≤ 1) : 0 ≤ (h + 1).toInt ∧ (h + 1).toInt ≤ 31 := by
  have h1 := qm_sh1 hb c
  rw [qm_shi hb]
  omega
theorem qm_shm {x h : Int32} {fu : Nat} (hb : 0 ≤ h.toInt ∧ h.toInt ≤ 31) (_ : ¬ (x >>> (h &&& 31)) ≤ 1) (z : (32 - h.toInt).toNat < fu + 1) : (32 - (h + 1).toInt).toNat < fu := by
  rw [qm_shi hb]
  omega
