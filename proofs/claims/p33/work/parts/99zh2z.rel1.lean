/-! numbers that can be, all of them; how the class writes them -/
theorem fin_q {P : Int32 → Prop} (lo : Int) (n : Nat) (h : ∀ j : Nat, j < n → P (Int32.ofInt (lo + j))) {q : Int32} (h1 : lo ≤ q.toInt) (h2 : q.toInt < lo + n) : P q := by
  have e : (lo + ((q.toInt - lo).toNat : Int)) = q.toInt := by omega
  have := h (q.toInt - lo).toNat (by omega)
  rw [e, Int32.ofInt_toInt] at this
  exact this
/-- a check of every number that can be -/
def vall (p : Int32 → Int32 → Int32 → Bool) : Bool :=
  (List.range 321).all (fun j => p 0 (Int32.ofInt (-160 + j)) 0) && p 0 0 1 && p 1 0 0 && p 1 0 1 &&
  (List.range 321).all (fun j => j == 160 || p 2 (Int32.ofInt (-160 + j)) 0) && (List.range 273).all (fun j => j == 128 || p 3 (Int32.ofInt (-128 + j)) 0) &&
  (List.range 164).all (fun j => j == 3 || p 4 (Int32.ofInt (-3 + j)) 0) && (List.range 28).all (fun j => p 5 (Int32.ofInt (-32 + j)) 0) &&
  (List.range 164).all (fun j => j == 3 || p 6 (Int32.ofInt (-3 + j)) 0)
theorem vall_e {p : Int32 → Int32 → Int32 → Bool} (h : vall p = true) {kd q u : Int32} (hv : vq kd q u) : p kd q u = true := by
  unfold vall at h
  simp only [Bool.and_eq_true] at h
  obtain ⟨⟨⟨⟨⟨⟨⟨⟨a0, a1⟩, a2⟩, a3⟩, a4⟩, a5⟩, a6⟩, a7⟩, a8⟩ := h
  have all : ∀ {n : Nat} {f : Nat → Bool}, (List.range n).all f = true → ∀ j, j < n → f j = true := fun {n f} h j hj => List.all_eq_true.mp h j (List.mem_range.mpr hj)
  have nz : ∀ {lo : Nat} {j : Nat} {b : Bool}, (j == lo || b) = true → ¬ (Int32.ofInt (-(lo : Int) + j)) = 0 → b = true := by
    intro lo j b hb hn
    rcases Bool.or_eq_true_iff.mp hb with h | h
    · exfalso
      apply hn
      have : j = lo := by simpa using h
      subst this
      rw [Int.add_left_neg]
      rfl
    · exact h
  rcases hv with ⟨rfl, h1, h2, rfl | ⟨rfl, rfl⟩⟩ | ⟨rfl, rfl, rfl | rfl⟩ | ⟨rfl, h1, h2, h3, rfl⟩ | ⟨rfl, h1, h2, h3, rfl⟩ | ⟨rfl, h1, h2, h3, rfl⟩ | ⟨rfl, h1, h2, rfl⟩ | ⟨rfl, h1, h2, h3, rfl⟩
  · exact fin_q (P := fun q => p 0 q 0 = true) (-160) 321 (fun j hj => all a0 j hj) h1 (by omega)
  · exact a1
  · exact a2
  · exact a3
  · exact fin_q (P := fun q => ¬ q = 0 → p 2 q 0 = true) (-160) 321 (fun j hj hn => nz (lo := 160) (all a4 j hj) hn) h1 (by omega) h3
  · exact fin_q (P := fun q => ¬ q = 0 → p 3 q 0 = true) (-128) 273 (fun j hj hn => nz (lo := 128) (all a5 j hj) hn) h1 (by omega) h3
  · exact fin_q (P := fun q => ¬ q = 0 → p 4 q 0 = true) (-3) 164 (fun j hj hn => nz (lo := 3) (all a6 j hj) hn) h1 (by omega) h3
  · exact fin_q (P := fun q => p 5 q 0 = true) (-32) 28 (fun j hj => all a7 j hj) h1 (by omega)
  · exact fin_q (P := fun q => ¬ q = 0 → p 6 q 0 = true) (-3) 164 (fun j hj hn => nz (lo := 3) (all a8 j hj) hn) h1 (by omega) h3
/-- as the class writes it -/
def enc (kd q u : Int32) : Int32 := if kd = 1 then f_X2_withoutEnd u else if q = 0 then f_X2_nought u else f_X2_make kd q
def qx (kd q u : Int32) : Int32 := if kd = 1 then (if u = 0 then 1000 else -1000) else q
def sgx (kd q u : Int32) : Int32 := if kd = 1 then u else if q = 0 then u else if kd = 2 then 0 else if 0 ≤ q then 0 else 1
theorem enc_v0 : vall (fun kd q u => decide (f_X2_kindOf (enc kd q u) = kd) && (decide (f_X2_qOf (enc kd q u) = qx kd q u) && decide (f_X2_isUnder (enc kd q u) = sgx kd q u))) = true := by decide +kernel
theorem enc_v {kd q u : Int32} (h : vq kd q u) : f_X2_kindOf (enc kd q u) = kd ∧ f_X2_qOf (enc kd q u) = qx kd q u ∧ f_X2_isUnder (enc kd q u) = sgx kd q u := by
  have := vall_e enc_v0 h
  simp only [Bool.and_eq_true, decide_eq_true_eq] at this
  exact this
theorem vq_1 {q u : Int32} (h : vq 1 q u) : q = 0 := by
  rcases h with ⟨h, _⟩ | ⟨_, h, _⟩ | ⟨h, _⟩ | ⟨h, _⟩ | ⟨h, _⟩ | ⟨h, _⟩ | ⟨h, _⟩
  · exact absurd h (by decide)
  · exact h
  · exact absurd h (by decide)
  · exact absurd h (by decide)
  · exact absurd h (by decide)
  · exact absurd h (by decide)
  · exact absurd h (by decide)
theorem vq_n {kd q u : Int32} (h : vq kd q u) (h1 : ¬ kd = 1) (h2 : ¬ q = 0) : u = 0 := by
  rcases h with ⟨_, _, _, h | ⟨_, h⟩⟩ | ⟨h, _⟩ | ⟨_, _, _, _, h⟩ | ⟨_, _, _, _, h⟩ | ⟨_, _, _, _, h⟩ | ⟨_, _, _, h⟩ | ⟨_, _, _, _, h⟩
  · exact h
  · exact absurd h h2
  · exact absurd h h1
  · exact h
  · exact h
  · exact h
  · exact h
  · exact h
theorem enc_inj {a b c a' b' c' : Int32} (h : vq a b c) (h' : vq a' b' c') (e : enc a b c = enc a' b' c') : a = a' ∧ b = b' ∧ c = c' := by
  obtain ⟨x1, x2, x3⟩ := enc_v h
  obtain ⟨y1, y2, y3⟩ := enc_v h'
  rw [e] at x1 x2 x3
  obtain rfl : a = a' := x1.symm.trans y1
  have e2 : qx a b c = qx a b' c' := x2.symm.trans y2
  have e3 : sgx a b c = sgx a b' c' := x3.symm.trans y3
  by_cases h1 : a = 1
  · subst h1
    have p1 := vq_1 h
    have p2 := vq_1 h'
    subst p1; subst p2
    exact ⟨rfl, rfl, e3⟩
  · unfold qx at e2
    rw [if_neg h1, if_neg h1] at e2
    subst e2
    by_cases h0 : b = 0
    · unfold sgx at e3
      rw [if_neg h1, if_pos h0, if_neg h1, if_pos h0] at e3
      exact ⟨rfl, rfl, e3⟩
    · exact ⟨rfl, rfl, (vq_n h h1 h0).trans (vq_n h' h1 h0).symm⟩
theorem in_1 {v lo up : Int32} (h : ¬ v < lo ∧ ¬ up < v) : f_X7_isIn v lo up = 1 := by
  unfold f_X7_isIn
  rw [if_neg h.1, if_neg h.2]
theorem in_0 {v lo up : Int32} (h : v < lo ∨ up < v) : f_X7_isIn v lo up = 0 := by
  unfold f_X7_isIn
  by_cases h1 : v < lo
  · rw [if_pos h1]
  · rw [if_neg h1, if_pos (h.resolve_left h1)]
theorem rg_i {q lo up : Int32} (h : ¬ q < lo ∧ ¬ up < q) : lo.toInt ≤ q.toInt ∧ q.toInt ≤ up.toInt := by
  obtain ⟨h1, h2⟩ := h
  rw [Int32.lt_iff_toInt_lt] at h1 h2
  omega
theorem it1 {α : Type} {a b : α} : (if (1 : Int32) = 0 then a else b) = b := if_neg (by decide)
theorem it0 {α : Type} {a b : α} : (if (0 : Int32) = 0 then a else b) = a := if_pos rfl
theorem q1c {α β : Type} {a b : α} {X : β} : (if ((1 : Int32), X).1 = 0 then a else b) = b := if_neg (show ¬ (1 : Int32) = 0 by decide)
theorem q0c {α β : Type} {a b : α} {X : β} : (if ((0 : Int32), X).1 = 0 then a else b) = a := if_pos rfl
theorem is1 (T : sM) : r_X7_isArgument 1 T = (1, th 0 T) := by
  unfold r_X7_isArgument
  rw [if_neg (by decide)]
  rfl
theorem is0 (T : sM) : r_X7_isArgument 0 T = (0, th 1 T) := by
  unfold r_X7_isArgument
  rw [if_pos rfl]
  rfl
