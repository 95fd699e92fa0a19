/-! the series -/
def snk (how q : Int32) : Int32 := if how = 0 then 0 else if q = 0 then 0 else how + 1
def snq (how q : Int32) : Int32 := if how = 1 then (if q = 0 then 4 else q) else q
def hk (how : Int32) : Int32 := if how = 0 then 0 else how + 1
def serB (how q : Int32) : Bool := decide (f_X4_digitsAt how q = f_X1_digitsOf (enc (snk how q) (snq how q) 0)) && decide (svN (vTr (hk how) q) = tS (snk how q) (snq how q))
theorem ser_0 : (List.range 321).all (fun j => serB 0 (Int32.ofInt (-160 + j))) = true := by decide +kernel
theorem ser_1 : (List.range 321).all (fun j => serB 1 (Int32.ofInt (-160 + j))) = true := by decide +kernel
theorem ser_2 : (List.range 273).all (fun j => serB 2 (Int32.ofInt (-128 + j))) = true := by decide +kernel
theorem ser_3 : (List.range 164).all (fun j => serB 3 (Int32.ofInt (-3 + j))) = true := by decide +kernel
/-- q is one of the series -/
def inS (how q : Int32) : Prop := (how = 0 ∧ -160 ≤ q.toInt ∧ q.toInt ≤ 160) ∨ (how = 1 ∧ -160 ≤ q.toInt ∧ q.toInt ≤ 160) ∨ (how = 2 ∧ -128 ≤ q.toInt ∧ q.toInt ≤ 144) ∨ (how = 3 ∧ -3 ≤ q.toInt ∧ q.toInt ≤ 160)
theorem ser_b {how q : Int32} (h : inS how q) : serB how q = true := by
  have all : ∀ {n : Nat} {f : Nat → Bool}, (List.range n).all f = true → ∀ j, j < n → f j = true := fun {n f} h j hj => List.all_eq_true.mp h j (List.mem_range.mpr hj)
  rcases h with ⟨rfl, h1, h2⟩ | ⟨rfl, h1, h2⟩ | ⟨rfl, h1, h2⟩ | ⟨rfl, h1, h2⟩
  · exact fin_q (P := fun q => serB 0 q = true) (-160) 321 (fun j hj => all ser_0 j hj) h1 (by omega)
  · exact fin_q (P := fun q => serB 1 q = true) (-160) 321 (fun j hj => all ser_1 j hj) h1 (by omega)
  · exact fin_q (P := fun q => serB 2 q = true) (-128) 273 (fun j hj => all ser_2 j hj) h1 (by omega)
  · exact fin_q (P := fun q => serB 3 q = true) (-3) 164 (fun j hj => all ser_3 j hj) h1 (by omega)
theorem ser_v {how q : Int32} (h : inS how q) : f_X4_digitsAt how q = f_X1_digitsOf (enc (snk how q) (snq how q) 0) ∧ svN (vTr (hk how) q) = tS (snk how q) (snq how q) := by
  have := Bool.and_eq_true_iff.mp (ser_b h)
  exact ⟨of_decide_eq_true this.1, of_decide_eq_true this.2⟩
theorem ser_q {how q : Int32} (h : inS how q) : vq (snk how q) (snq how q) 0 := by
  unfold snk snq
  rcases h with ⟨rfl, h1, h2⟩ | ⟨rfl, h1, h2⟩ | ⟨rfl, h1, h2⟩ | ⟨rfl, h1, h2⟩
  · rw [if_pos rfl, if_neg (by decide)]
    exact Or.inl ⟨rfl, h1, h2, Or.inl rfl⟩
  · rw [if_neg (by decide), if_pos rfl]
    by_cases e : q = 0
    · rw [if_pos e, if_pos e]
      exact Or.inl ⟨rfl, by decide, by decide, Or.inl rfl⟩
    · rw [if_neg e, if_neg e]
      exact Or.inr (Or.inr (Or.inl ⟨rfl, h1, h2, e, rfl⟩))
  · rw [if_neg (show ¬ (2 : Int32) = 0 by decide), if_neg (show ¬ (2 : Int32) = 1 by decide)]
    by_cases e : q = 0
    · rw [if_pos e, e]
      exact vq_z (Or.inl rfl)
    · rw [if_neg e]
      exact Or.inr (Or.inr (Or.inr (Or.inl ⟨rfl, h1, h2, e, rfl⟩)))
  · rw [if_neg (show ¬ (3 : Int32) = 0 by decide), if_neg (show ¬ (3 : Int32) = 1 by decide)]
    by_cases e : q = 0
    · rw [if_pos e, e]
      exact vq_z (Or.inl rfl)
    · rw [if_neg e]
      exact Or.inr (Or.inr (Or.inr (Or.inr (Or.inl ⟨rfl, h1, h2, e, rfl⟩))))
theorem ser_n1 {how q : Int32} (h : inS how q) : ¬ snk how q = 1 := by
  unfold snk
  rcases h with ⟨rfl, h1, h2⟩ | ⟨rfl, h1, h2⟩ | ⟨rfl, h1, h2⟩ | ⟨rfl, h1, h2⟩
  · rw [if_pos rfl]; decide
  · rw [if_neg (by decide)]; split <;> decide
  · rw [if_neg (by decide)]; split <;> decide
  · rw [if_neg (by decide)]; split <;> decide
theorem ser_t {how q : Int32} (S : sM) (h : inS how q) : svN (tv (r_X7_trueIn how q S) 0 11) = tS (snk how q) (snq how q) := by
  have e : r_X7_trueIn how q S = r_X7_trueOf (hk how) q S := by
    unfold r_X7_trueIn hk
    by_cases z : how = 0
    · rw [if_pos z, if_pos z]
    · rw [if_neg z, if_neg z]
  have t : tpre (hk how) q := by
    unfold tpre hk
    rcases h with ⟨rfl, h1, h2⟩ | ⟨rfl, h1, h2⟩ | ⟨rfl, h1, h2⟩ | ⟨rfl, h1, h2⟩
    · exact ⟨fun z => absurd z (by decide), fun z => absurd z (by decide), fun z => absurd z (by decide)⟩
    · exact ⟨fun _ => ⟨h1, h2⟩, fun z => absurd z (by decide), fun z => absurd z (by decide)⟩
    · exact ⟨fun z => absurd z (by decide), fun _ => ⟨by omega, by omega⟩, fun z => absurd z (by decide)⟩
    · exact ⟨fun z => absurd z (by decide), fun z => absurd z (by decide), fun _ => ⟨h1, h2⟩⟩
  rw [e, true_v S t, (ser_v h).2]
/-- kM and the true number, where a zero is above -/
theorem kM_0 {a b : Int32} (h : vq a b 0) (h1 : ¬ a = 1) : kM a b 0 = 2 * tS a b := by
  obtain ⟨-, -, z, -⟩ := kM_b h h1
  by_cases e : a = 0 ∧ b = 0
  · rw [z e]
    unfold kM
    rw [if_neg h1, if_pos e, if_pos rfl]
    rfl
  · exact kM_2 h1 e
theorem kM_lt {a b a' b' c' : Int32} (h : vq a b 0) (h1 : ¬ a = 1) (h' : vq a' b' c') (h1' : ¬ a' = 1) : kM a b 0 < kM a' b' c' ↔ tS a b < tS a' b' := by
  rw [kM_0 h h1]
  obtain ⟨-, -, z, n⟩ := kM_b h' h1'
  by_cases e : a' = 0 ∧ b' = 0
  · rw [z e]
    unfold kM
    rw [if_neg h1', if_pos e]
    split <;> omega
  · rw [kM_2 h1' e]
    omega
/-- a series' number against a cell's -/
theorem ser_c {how q a b c : Int32} (X : sM) (h : inS how q) (h' : vq a b c) (h1 : ¬ a = 1) : 0 ≤ f_X1_compare (f_X4_digitsAt how q) (f_X1_digitsOf (enc a b c)) ↔ 0 ≤ r_X7_compare (r_X7_trueIn how q X) (r_X7_trueOf a b X) := by
  rw [(ser_v h).1, cmpX, or_c (ser_q h) h', cmp_v, ser_t X h, true_v X (vq_t h'), cmpI_0, cmpI_0, kM_lt (ser_q h) (ser_n1 h) h' h1]
  exact Iff.rfl
theorem ser_cc {how q how' q' : Int32} (X : sM) (h : inS how q) (h' : inS how' q') : f_X1_compare (f_X4_digitsAt how q) (f_X4_digitsAt how' q') = r_X7_compare (r_X7_trueIn how q X) (r_X7_trueIn how' q' X) := by
  rw [(ser_v h).1, (ser_v h').1, cmpX, or_c (ser_q h) (ser_q h'), cmp_v, ser_t X h, ser_t X h', kM_0 (ser_q h) (ser_n1 h), kM_0 (ser_q h') (ser_n1 h'), cmpI_2]
theorem inS_f {how q : Int32} (g : ¬ how < 0 ∧ ¬ 3 < how) (h : ¬ q < f_X4_firstQ how ∧ ¬ f_X4_lastQ how < q) : inS how q := by
  obtain ⟨a, b⟩ := g
  rw [Int32.lt_iff_toInt_lt] at a b
  have e0 : (0 : Int32).toInt = 0 := rfl
  have e1 : (1 : Int32).toInt = 1 := rfl
  have e2 : (2 : Int32).toInt = 2 := rfl
  have e3 : (3 : Int32).toInt = 3 := rfl
  have m160 : (-160 : Int32).toInt = -160 := rfl
  have p160 : (160 : Int32).toInt = 160 := rfl
  have m128 : (-128 : Int32).toInt = -128 := rfl
  have p144 : (144 : Int32).toInt = 144 := rfl
  have m3 : (-3 : Int32).toInt = -3 := rfl
  rcases (show how.toInt = 0 ∨ how.toInt = 1 ∨ how.toInt = 2 ∨ how.toInt = 3 by omega) with e | e | e | e
  · have ev : how = 0 := Int32.toInt_inj.mp (e.trans e0.symm)
    subst ev
    have h' : ¬ q < -160 ∧ ¬ 160 < q := h
    rw [Int32.lt_iff_toInt_lt, Int32.lt_iff_toInt_lt] at h'
    exact Or.inl ⟨rfl, by omega, by omega⟩
  · have ev : how = 1 := Int32.toInt_inj.mp (e.trans e1.symm)
    subst ev
    have h' : ¬ q < -160 ∧ ¬ 160 < q := h
    rw [Int32.lt_iff_toInt_lt, Int32.lt_iff_toInt_lt] at h'
    exact Or.inr (Or.inl ⟨rfl, by omega, by omega⟩)
  · have ev : how = 2 := Int32.toInt_inj.mp (e.trans e2.symm)
    subst ev
    have h' : ¬ q < -128 ∧ ¬ 144 < q := h
    rw [Int32.lt_iff_toInt_lt, Int32.lt_iff_toInt_lt] at h'
    exact Or.inr (Or.inr (Or.inl ⟨rfl, by omega, by omega⟩))
  · have ev : how = 3 := Int32.toInt_inj.mp (e.trans e3.symm)
    subst ev
    have h' : ¬ q < -3 ∧ ¬ 160 < q := h
    rw [Int32.lt_iff_toInt_lt, Int32.lt_iff_toInt_lt] at h'
    exact Or.inr (Or.inr (Or.inr ⟨rfl, by omega, by omega⟩))
theorem how_c {how : Int32} (g : ¬ how < 0 ∧ ¬ 3 < how) : how = 0 ∨ how = 1 ∨ how = 2 ∨ how = 3 := by
  obtain ⟨a, b⟩ := g
  rw [Int32.lt_iff_toInt_lt] at a b
  have e0 : (0 : Int32).toInt = 0 := rfl
  have e1 : (1 : Int32).toInt = 1 := rfl
  have e2 : (2 : Int32).toInt = 2 := rfl
  have e3 : (3 : Int32).toInt = 3 := rfl
  rcases (show how.toInt = 0 ∨ how.toInt = 1 ∨ how.toInt = 2 ∨ how.toInt = 3 by omega) with e | e | e | e
  · exact Or.inl (Int32.toInt_inj.mp (e.trans e0.symm))
  · exact Or.inr (Or.inl (Int32.toInt_inj.mp (e.trans e1.symm)))
  · exact Or.inr (Or.inr (Or.inl (Int32.toInt_inj.mp (e.trans e2.symm))))
  · exact Or.inr (Or.inr (Or.inr (Int32.toInt_inj.mp (e.trans e3.symm))))
/-- the bounds of a series, on both sides -/
theorem sb_e {how : Int32} (g : ¬ how < 0 ∧ ¬ 3 < how) : t_le how.toNatClampNeg = f_X4_firstQ how ∧ t_gr how.toNatClampNeg = f_X4_lastQ how := by
  rcases how_c g with rfl | rfl | rfl | rfl
  · decide
  · decide
  · decide
  · decide
theorem ism0 {α : Type} {a b : α} {T : sM} : (if (r_X7_isArgument 0 T).1 = 0 then a else b) = a := if_pos rfl
theorem ism1 {α : Type} {a b : α} {T : sM} : (if (r_X7_isArgument 1 T).1 = 0 then a else b) = b := if_neg (by
  unfold r_X7_isArgument
  rw [if_neg (by decide)]
  show ¬ (1 : Int32) = 0
  decide)
theorem h30 {h : Int32} (g : ¬ h < 1 ∧ ¬ 3 < h) : ¬ h < 0 ∧ ¬ 3 < h := by
  obtain ⟨a, b⟩ := g
  refine ⟨fun z => a ?_, b⟩
  rw [Int32.lt_iff_toInt_lt] at z ⊢
  have e0 : (0 : Int32).toInt = 0 := rfl
  have e1 : (1 : Int32).toInt = 1 := rfl
  omega
theorem snk_n {how q : Int32} (g : ¬ how < 0 ∧ ¬ 3 < how) : ¬ snk how q = 1 ∧ ¬ snk how q = 5 ∧ ¬ snk how q = 6 := by
  unfold snk
  rcases how_c g with rfl | rfl | rfl | rfl
  · rw [if_pos rfl]; decide
  · rw [if_neg (by decide)]; split <;> decide
  · rw [if_neg (by decide)]; split <;> decide
  · rw [if_neg (by decide)]; split <;> decide
