/-! all cells put in order -/
def ltB (κ : Nat → Int) (a b : Nat) : Bool := decide (κ a < κ b) || (decide (κ a = κ b) && decide (a < b))
theorem ltB_e {κ : Nat → Int} {a b : Nat} : ltB κ a b = true ↔ κ a < κ b ∨ (κ a = κ b ∧ a < b) := by
  unfold ltB
  simp only [Bool.or_eq_true, Bool.and_eq_true, decide_eq_true_eq]
theorem ltB_t {κ : Nat → Int} {a b c : Nat} (h1 : ltB κ a b = true) (h2 : ltB κ b c = true) : ltB κ a c = true := by
  rw [ltB_e] at h1 h2 ⊢
  omega
theorem ltB_i {κ : Nat → Int} (a : Nat) : ¬ ltB κ a a = true := by
  rw [ltB_e]
  omega
def s8 (f : Nat → Nat) : Nat := f 0 + f 1 + f 2 + f 3 + f 4 + f 5 + f 6 + f 7
def swp (σ : Nat → Nat) (k : Nat) : Nat → Nat := fun j => if j = k then σ (k - 1) else if j = k - 1 then σ k else σ j
theorem s8_swp (σ f : Nat → Nat) : ∀ k : Nat, 0 < k → k < 8 → s8 (fun m => f (swp σ k m)) = s8 (fun m => f (σ m))
  | 0, h, _ => absurd h (by omega)
  | 1, _, _ => by simp [s8, swp]; omega
  | 2, _, _ => by simp [s8, swp]; omega
  | 3, _, _ => by simp [s8, swp]; omega
  | 4, _, _ => by simp [s8, swp]; omega
  | 5, _, _ => by simp [s8, swp]; omega
  | 6, _, _ => by simp [s8, swp]; omega
  | 7, _, _ => by simp [s8, swp]; omega
  | k + 8, _, h => absurd h (by omega)
def pm8 (σ : Nat → Nat) : Prop := ∀ f : Nat → Nat, s8 (fun m => f (σ m)) = s8 f
def insI (κ : Nat → Int) (i : Nat) (σ : Nat → Nat) : Prop := pm8 σ ∧ (∀ a b, a < b → b < i → ltB κ (σ a) (σ b) = true) ∧ (∀ j, i ≤ j → σ j = j) ∧ (∀ j, j < i → σ j < i)
def innI (κ : Nat → Int) (i k : Nat) (σ : Nat → Nat) : Prop := pm8 σ ∧ σ k = i ∧ k ≤ i ∧ (∀ a b, a < b → b ≤ i → a ≠ k → b ≠ k → ltB κ (σ a) (σ b) = true) ∧ (∀ b, k < b → b ≤ i → ltB κ i (σ b) = true) ∧ (∀ j, i < j → σ j = j) ∧ (∀ j, j ≤ i → j ≠ k → σ j < i)
theorem in_st {κ : Nat → Int} {i : Nat} {σ : Nat → Nat} (h : insI κ i σ) : innI κ i i σ := by
  obtain ⟨h1, h2, h3, h4⟩ := h
  exact ⟨h1, h3 i (Nat.le_refl _), Nat.le_refl _, fun a b ab bi _ nb => h2 a b ab (by omega), fun b h h' => absurd h (by omega), fun j hj => h3 j (by omega), fun j hj hn => h4 j (by omega)⟩
theorem in_en {κ : Nat → Int} {i k : Nat} {σ : Nat → Nat} (h : innI κ i k σ) (hk : k = 0 ∨ ltB κ (σ (k - 1)) i = true) : insI κ (i + 1) σ := by
  obtain ⟨h1, h2, h3, h4, h5, h6, h7⟩ := h
  refine ⟨h1, fun a b ab bi => ?_, fun j hj => h6 j (by omega), fun j hj => ?_⟩
  · by_cases ea : a = k
    · rw [ea, h2]
      exact h5 b (by omega) (by omega)
    · by_cases eb : b = k
      · rw [eb, h2]
        rcases hk with hk | hk
        · omega
        · by_cases e1 : a = k - 1
          · rw [e1]; exact hk
          · exact ltB_t (h4 a (k - 1) (by omega) (by omega) ea (by omega)) hk
      · exact h4 a b ab (by omega) ea eb
  · by_cases e : j = k
    · rw [e, h2]; omega
    · have := h7 j (by omega) e
      omega
theorem in_sw {κ : Nat → Int} {i k : Nat} {σ : Nat → Nat} (h : innI κ i k σ) (h0 : 0 < k) (h8 : i < 8) (hk : κ i < κ (σ (k - 1))) : innI κ i (k - 1) (swp σ k) := by
  obtain ⟨h1, h2, h3, h4, h5, h6, h7⟩ := h
  have eK : swp σ k k = σ (k - 1) := if_pos rfl
  have eL : swp σ k (k - 1) = i := by
    unfold swp
    rw [if_neg (by omega), if_pos rfl, h2]
  have eO : ∀ j, j ≠ k → j ≠ k - 1 → swp σ k j = σ j := fun j a b => by
    unfold swp
    rw [if_neg a, if_neg b]
  refine ⟨fun f => (s8_swp σ f k h0 (by omega)).trans (h1 f), eL, by omega, fun a b ab bi na nb => ?_, fun b hb hi => ?_, fun j hj => ?_, fun j hj hn => ?_⟩
  · by_cases ea : a = k
    · rw [ea, eK, eO b (by omega) nb]
      exact h4 (k - 1) b (by omega) bi (by omega) (by omega)
    · by_cases eb : b = k
      · rw [eb, eK, eO a ea na]
        exact h4 a (k - 1) (by omega) (by omega) ea (by omega)
      · rw [eO a ea na, eO b eb nb]
        exact h4 a b ab bi ea eb
  · by_cases eb : b = k
    · rw [eb, eK]
      exact ltB_e.mpr (Or.inl hk)
    · rw [eO b eb (by omega)]
      exact h5 b (by omega) hi
  · rw [eO j (by omega) (by omega)]
    exact h6 j hj
  · by_cases ej : j = k
    · rw [ej, eK]
      exact h7 (k - 1) (by omega) (by omega)
    · rw [eO j ej hn]
      exact h7 j hj ej
/-- the class's cells by the places that they had -/
def soC (N : Nat → Int32) (R : (Nat → Int32) × Int32 × Int32 × Int32) (S : sX) (σ : Nat → Nat) : Prop := (∀ j : Nat, j < 8 → S.1 j = N (σ j)) ∧ (∀ j : Nat, j < 8 → S.2.1 j = f_X1_digitsOf (N (σ j))) ∧ S.2.2 = R
def kap (T : sM) (j : Nat) : Int := kM (T.1 j) (T.2.1 j) (T.2.2.1 j)
theorem sq_cmp {T : sM} {N : Nat → Int32} {R : (Nat → Int32) × Int32 × Int32 × Int32} {S : sX} {σ : Nat → Nat} (hI : IM T) (hN : ∀ j : Nat, j < 8 → N j = enc (T.1 j) (T.2.1 j) (T.2.2.1 j)) (hC : soC N R S σ) {a b : Int32} (ha : a.toNatClampNeg < 8) (hb : b.toNatClampNeg < 8) (sa : σ a.toNatClampNeg < 8) (sb : σ b.toNatClampNeg < 8) : 0 ≤ r_X5_compareCells a b S ↔ ¬ kap T (σ a.toNatClampNeg) < kap T (σ b.toNatClampNeg) := by
  unfold r_X5_compareCells
  rw [cmpX, hC.2.1 _ ha, hC.2.1 _ hb, hN _ sa, hN _ sb, or_c (hI _ sa) (hI _ sb)]
  exact cmpI_0
theorem sq_14 {T : sM} {N : Nat → Int32} {R : (Nat → Int32) × Int32 × Int32 × Int32} (hI : IM T) (hN : ∀ j : Nat, j < 8 → N j = enc (T.1 j) (T.2.1 j) (T.2.2.1 j)) {i : Int32} {kx : sX → Int32 × sX} {Q : Int32 × sX → Prop} (h8 : i.toNatClampNeg < 8) (hkx : ∀ (S : sX) (σ : Nat → Nat), soC N R S σ → insI (kap T) (i.toNatClampNeg + 1) σ → Q (kx S)) : ∀ (fu : Nat) (k : Int32) (S : sX) (σ : Nat → Nat), soC N R S σ → innI (kap T) i.toNatClampNeg k.toNatClampNeg σ → ¬ k < 0 → k.toInt.toNat < fu → Q (lr_X5_sort_14 i kx fu k S)
  | 0, _, _, _, _, _, _, h => absurd h (Nat.not_lt_zero _)
  | fu + 1, k, S, σ, hC, hi, hk0, hf => by
    rw [lr_X5_sort_14]
    have e0 : (0 : Int32).toInt = 0 := rfl
    by_cases c : k ≤ 0
    · rw [if_pos c]
      rw [Int32.le_iff_toInt_le] at c
      have ek : k.toNatClampNeg = 0 := by show k.toInt.toNat = 0; omega
      exact hkx S σ hC (in_en hi (Or.inl ek))
    · rw [if_neg c]
      have d := qm_dec c
      have dn : (k - 1).toNatClampNeg = k.toNatClampNeg - 1 := by show (k - 1).toInt.toNat = k.toInt.toNat - 1; omega
      have c' := c
      rw [Int32.le_iff_toInt_le] at c'
      have kp : 0 < k.toNatClampNeg := by show 0 < k.toInt.toNat; omega
      obtain ⟨p1, p2, p3, p4, p5, p6, p7⟩ := id hi
      have s1 := p7 (k.toNatClampNeg - 1) (by omega) (by omega)
      have cm := sq_cmp hI hN hC (a := k) (b := k - 1) (by omega) (by omega) (by omega) (by rw [dn]; omega)
      rw [dn, p2] at cm
      by_cases z : 0 ≤ r_X5_compareCells k (k - 1) S
      · rw [if_pos z]
        have nz := cm.mp z
        refine hkx S σ hC (in_en hi (Or.inr (ltB_e.mpr ?_)))
        omega
      · rw [if_neg z]
        have hz : kap T i.toNatClampNeg < kap T (σ (k.toNatClampNeg - 1)) := by
          by_cases y : kap T i.toNatClampNeg < kap T (σ (k.toNatClampNeg - 1))
          · exact y
          · exact absurd (cm.mpr y) z
        have hi' := in_sw hi kp h8 hz
        obtain ⟨q1, q2, q3⟩ := hC
        have ne : (k - 1).toNatClampNeg ≠ k.toNatClampNeg := by omega
        refine sq_14 hI hN h8 hkx fu (k + (-1)) _ (swp σ k.toNatClampNeg) ⟨fun j hj => ?_, fun j hj => ?_, q3⟩ ?_ ?_ ?_
        · show upd (upd S.1 k.toNatClampNeg (S.1 (k - 1).toNatClampNeg)) (k - 1).toNatClampNeg (S.1 k.toNatClampNeg) j = _
          unfold swp
          by_cases j1 : j = (k - 1).toNatClampNeg
          · rw [j1, upd_same, dn, if_neg (by omega), if_pos rfl]
            exact q1 _ (by omega)
          · rw [upd_ne _ _ j1]
            by_cases j2 : j = k.toNatClampNeg
            · rw [j2, upd_same, if_pos rfl, dn]
              exact q1 _ (by omega)
            · rw [upd_ne _ _ j2, if_neg j2, if_neg (by omega)]
              exact q1 j hj
        · show vp_updL (vp_updL S.2.1 k.toNatClampNeg (f_X1_digitsOf (S.1 (k - 1).toNatClampNeg))) (k - 1).toNatClampNeg (f_X1_digitsOf (S.1 k.toNatClampNeg)) j = _
          unfold swp
          by_cases j1 : j = (k - 1).toNatClampNeg
          · rw [j1, updL_s, dn, if_neg (by omega), if_pos rfl]
            exact congrArg f_X1_digitsOf (q1 _ (by omega))
          · rw [updL_n _ _ j1]
            by_cases j2 : j = k.toNatClampNeg
            · rw [j2, updL_s, if_pos rfl, dn]
              exact congrArg f_X1_digitsOf (q1 _ (by omega))
            · rw [updL_n _ _ j2, if_neg j2, if_neg (by omega)]
              exact q2 j hj
        · rw [qm_m1, dn]
          exact hi'
        · rw [qm_m1, Int32.lt_iff_toInt_lt]
          omega
        · rw [qm_m1]
          omega
theorem sq_6 {T : sM} {N : Nat → Int32} {R : (Nat → Int32) × Int32 × Int32 × Int32} (hI : IM T) (hN : ∀ j : Nat, j < 8 → N j = enc (T.1 j) (T.2.1 j) (T.2.2.1 j)) : ∀ (fu : Nat) (i : Int32) (S : sX) (σ : Nat → Nat), soC N R S σ → insI (kap T) i.toNatClampNeg σ → ¬ i < 0 → i.toNatClampNeg ≤ 8 → ((8 : Int32).toInt - i.toInt).toNat < fu → ∃ (Z : sX) (τ : Nat → Nat), lr_X5_sort_6 fu i S = r_X5_countAct (r_X5_changedCells Z) Z ∧ soC N R Z τ ∧ insI (kap T) 8 τ
  | 0, _, _, _, _, _, _, _, h => absurd h (Nat.not_lt_zero _)
  | fu + 1, i, S, σ, hC, hi, hi0, hi8, h => by
    rw [lr_X5_sort_6]
    by_cases c : 8 ≤ i
    · rw [if_pos c]
      have := ge8 c
      have e : i.toNatClampNeg = 8 := by omega
      rw [e] at hi
      exact ⟨S, σ, rfl, hC, hi⟩
    · rw [if_neg c]
      have n1 := nx_n hi0 c
      have l8 := vp_lt (qm_in8 hi0 c)
      refine sq_14 hI hN (Q := fun r => ∃ (Z : sX) (τ : Nat → Nat), r = r_X5_countAct (r_X5_changedCells Z) Z ∧ soC N R Z τ ∧ insI (kap T) 8 τ) l8 (fun S' σ' hC' hi' => ?_) 9 i S σ hC (in_st hi) hi0 ?_
      · exact sq_6 hI hN fu (i + 1) S' σ' hC' (by rw [n1]; exact hi') (qm_pos hi0 c) (by omega) (qm_up c h)
      · have : i.toInt.toNat = i.toNatClampNeg := rfl
        omega
/-! the model: places counted -/
def cn (κ : Nat → Int) (k m : Nat) : Nat := s8 (fun n => if m ≤ n ∧ ltB κ n k = true then 1 else 0)
theorem s8_c {f g : Nat → Nat} (h : ∀ n, n < 8 → f n = g n) : s8 f = s8 g := by
  unfold s8
  rw [h 0 (by decide), h 1 (by decide), h 2 (by decide), h 3 (by decide), h 4 (by decide), h 5 (by decide), h 6 (by decide), h 7 (by decide)]
theorem s8_a (f g : Nat → Nat) : s8 (fun n => f n + g n) = s8 f + s8 g := by
  show (f 0 + g 0) + (f 1 + g 1) + (f 2 + g 2) + (f 3 + g 3) + (f 4 + g 4) + (f 5 + g 5) + (f 6 + g 6) + (f 7 + g 7) = (f 0 + f 1 + f 2 + f 3 + f 4 + f 5 + f 6 + f 7) + (g 0 + g 1 + g 2 + g 3 + g 4 + g 5 + g 6 + g 7)
  omega
theorem s8_1 (m : Nat) (x : Nat) (h : m < 8) : s8 (fun n => if n = m then x else 0) = x := by
  unfold s8
  match m, h with
  | 0, _ => simp
  | 1, _ => simp
  | 2, _ => simp
  | 3, _ => simp
  | 4, _ => simp
  | 5, _ => simp
  | 6, _ => simp
  | 7, _ => simp
  | m + 8, h => exact absurd h (by omega)
theorem cn_s {κ : Nat → Int} {k m : Nat} (h : m < 8) : cn κ k m = (if ltB κ m k = true then 1 else 0) + cn κ k (m + 1) := by
  unfold cn
  rw [← s8_1 m (if ltB κ m k = true then 1 else 0) h, ← s8_a]
  refine s8_c (fun n _ => ?_)
  show (if m ≤ n ∧ ltB κ n k = true then 1 else 0) = (if n = m then (if ltB κ m k = true then 1 else 0) else 0) + (if m + 1 ≤ n ∧ ltB κ n k = true then 1 else 0)
  by_cases e : n = m
  · have e2 : ¬ (m + 1 ≤ n ∧ ltB κ n k = true) := fun z => absurd z.1 (by omega)
    rw [if_pos e, if_neg e2, e, Nat.add_zero]
    by_cases l : ltB κ m k = true
    · have l2 : m ≤ m ∧ ltB κ m k = true := ⟨Nat.le_refl _, l⟩
      rw [if_pos l2, if_pos l]
    · have l2 : ¬ (m ≤ m ∧ ltB κ m k = true) := fun z => l z.2
      rw [if_neg l2, if_neg l]
  · rw [if_neg e, Nat.zero_add]
    by_cases l : m ≤ n ∧ ltB κ n k = true
    · have l2 : m + 1 ≤ n ∧ ltB κ n k = true := ⟨by omega, l.2⟩
      rw [if_pos l, if_pos l2]
    · have l2 : ¬ (m + 1 ≤ n ∧ ltB κ n k = true) := fun z => l ⟨by omega, z.2⟩
      rw [if_neg l, if_neg l2]
theorem cn_8 (κ : Nat → Int) (k : Nat) : cn κ k 8 = 0 := by
  unfold cn
  exact s8_c (g := fun _ => 0) (fun n hn => if_neg (fun z => absurd z.1 (by omega)))
theorem of1 (c : Nat) : Int32.ofNat c + 1 = Int32.ofNat (c + 1) := (Int32.ofNat_add c 1).symm
theorem sq_39 {T : sM} (hI : IM T) {k : Int32} (hk : vp_in k 8) : ∀ (fu : Nat) (n : Int32) (g : qR) (c : Nat), ¬ n < 0 → n.toNatClampNeg ≤ 8 → ((8 : Int32).toInt - n.toInt).toNat < fu → g k.toNatClampNeg = Int32.ofNat c → (lf_X7_sort_39 k fu n g T).2 k.toNatClampNeg = Int32.ofNat (c + cn (kap T) k.toNatClampNeg n.toNatClampNeg) ∧ ∀ j : Nat, j ≠ k.toNatClampNeg → (lf_X7_sort_39 k fu n g T).2 j = g j
  | 0, _, _, _, _, _, h, _ => absurd h (Nat.not_lt_zero _)
  | fu + 1, n, g, c, hn, hn8, h, hg => by
    rw [lf_X7_sort_39]
    by_cases z : 8 ≤ n
    · rw [if_pos z]
      have := ge8 z
      have e : n.toNatClampNeg = 8 := by omega
      rw [e, cn_8]
      exact ⟨hg, fun _ _ => rfl⟩
    · rw [if_neg z]
      have n8 := qm_in8 hn z
      have n1 := nx_n hn z
      have l8 := vp_lt n8
      rw [orM (hI _ l8) (hI _ (vp_lt hk))]
      have rec1 := sq_39 hI hk fu (n + 1) (upd g k.toNatClampNeg (g k.toNatClampNeg + 1)) (c + 1) (qm_pos hn z) (by omega) (qm_up z h) (by rw [upd_same, hg, of1])
      have rec0 := sq_39 hI hk fu (n + 1) (upd g k.toNatClampNeg (g k.toNatClampNeg + 0)) c (qm_pos hn z) (by omega) (qm_up z h) (by rw [upd_same, hg, Int32.add_zero])
      rw [n1] at rec1 rec0
      have o1 : ∀ (x : Int32) (j : Nat), j ≠ k.toNatClampNeg → upd g k.toNatClampNeg x j = g j := fun x j hj => upd_ne _ _ hj
      rw [cn_s l8]
      have fin1 : ltB (kap T) n.toNatClampNeg k.toNatClampNeg = true → (lf_X7_sort_39 k fu (n + 1) (upd g k.toNatClampNeg (g k.toNatClampNeg + 1)) T).2 k.toNatClampNeg = Int32.ofNat (c + ((if ltB (kap T) n.toNatClampNeg k.toNatClampNeg = true then 1 else 0) + cn (kap T) k.toNatClampNeg (n.toNatClampNeg + 1))) ∧ ∀ j : Nat, j ≠ k.toNatClampNeg → (lf_X7_sort_39 k fu (n + 1) (upd g k.toNatClampNeg (g k.toNatClampNeg + 1)) T).2 j = g j := fun l => by
        rw [if_pos l, ← Nat.add_assoc]
        exact ⟨rec1.1, fun j hj => (rec1.2 j hj).trans (o1 _ j hj)⟩
      have fin0 : ¬ ltB (kap T) n.toNatClampNeg k.toNatClampNeg = true → (lf_X7_sort_39 k fu (n + 1) (upd g k.toNatClampNeg (g k.toNatClampNeg + 0)) T).2 k.toNatClampNeg = Int32.ofNat (c + ((if ltB (kap T) n.toNatClampNeg k.toNatClampNeg = true then 1 else 0) + cn (kap T) k.toNatClampNeg (n.toNatClampNeg + 1))) ∧ ∀ j : Nat, j ≠ k.toNatClampNeg → (lf_X7_sort_39 k fu (n + 1) (upd g k.toNatClampNeg (g k.toNatClampNeg + 0)) T).2 j = g j := fun l => by
        rw [if_neg l, Nat.zero_add]
        exact ⟨rec0.1, fun j hj => (rec0.2 j hj).trans (o1 _ j hj)⟩
      have kk : kM (T.1 n.toNatClampNeg) (T.2.1 n.toNatClampNeg) (T.2.2.1 n.toNatClampNeg) = kap T n.toNatClampNeg := rfl
      have kl : kM (T.1 k.toNatClampNeg) (T.2.1 k.toNatClampNeg) (T.2.2.1 k.toNatClampNeg) = kap T k.toNatClampNeg := rfl
      rw [kk, kl]
      rcases Int.lt_trichotomy (kap T n.toNatClampNeg) (kap T k.toNatClampNeg) with q | q | q
      · rw [cmpI_l q, if_pos (by decide)]
        exact fin1 (ltB_e.mpr (Or.inl q))
      · rw [cmpI_e q, if_neg (by decide), if_pos rfl]
        by_cases y : k ≤ n
        · rw [if_pos y]
          refine fin0 (fun l => ?_)
          have := ltB_e.mp l
          rw [Int32.le_iff_toInt_le] at y
          have a1 : n.toNatClampNeg = n.toInt.toNat := rfl
          have a2 : k.toNatClampNeg = k.toInt.toNat := rfl
          omega
        · rw [if_neg y]
          refine fin1 (ltB_e.mpr (Or.inr ⟨q, ?_⟩))
          rw [Int32.le_iff_toInt_le] at y
          rw [Int32.lt_iff_toInt_lt] at hn
          have e0 : (0 : Int32).toInt = 0 := rfl
          show n.toInt.toNat < k.toInt.toNat
          omega
      · rw [cmpI_g q, if_neg (by decide), if_neg (by decide)]
        refine fin0 (fun l => ?_)
        have := ltB_e.mp l
        omega
theorem sq_29 {T : sM} (hI : IM T) : ∀ (fu : Nat) (k : Int32) (g : qR), ¬ k < 0 → k.toNatClampNeg ≤ 8 → ((8 : Int32).toInt - k.toInt).toNat < fu → (∀ j : Nat, k.toNatClampNeg ≤ j → g j = 0) → (∀ j : Nat, j < k.toNatClampNeg → g j = Int32.ofNat (cn (kap T) j 0)) → ∀ j : Nat, j < 8 → (lf_X7_sort_29 fu k g T).2 j = Int32.ofNat (cn (kap T) j 0)
  | 0, _, _, _, _, h, _, _ => absurd h (Nat.not_lt_zero _)
  | fu + 1, k, g, hk, hk8, h, h0, h1 => by
    rw [lf_X7_sort_29]
    by_cases z : 8 ≤ k
    · rw [if_pos z]
      have := ge8 z
      exact fun j hj => h1 j (by omega)
    · rw [if_neg z]
      have n8 := qm_in8 hk z
      have n1 := nx_n hk z
      obtain ⟨a1, a2⟩ := sq_39 hI n8 9 0 g 0 (by decide) (by decide) (by decide) (h0 _ (Nat.le_refl _))
      rw [Nat.zero_add] at a1
      have l8 := vp_lt n8
      refine sq_29 hI fu (k + 1) _ (qm_pos hk z) (by omega) (qm_up z h) (fun j hj => ?_) (fun j hj => ?_)
      · rw [a2 j (by omega)]
        exact h0 j (by omega)
      · by_cases e : j = k.toNatClampNeg
        · rw [e]; exact a1
        · rw [a2 j e]
          exact h1 j (by omega)
theorem cn_v {κ : Nat → Int} {σ : Nat → Nat} (h : insI κ 8 σ) {j : Nat} (hj : j < 8) : cn κ (σ j) 0 = j := by
  obtain ⟨h1, h2, h3, h4⟩ := h
  have e : cn κ (σ j) 0 = s8 (fun n => if ltB κ n (σ j) = true then 1 else 0) := s8_c (fun n _ => by
    by_cases l : ltB κ n (σ j) = true
    · rw [if_pos ⟨Nat.zero_le _, l⟩, if_pos l]
    · rw [if_neg (fun z => l z.2), if_neg l])
  rw [e, ← h1 (fun n => if ltB κ n (σ j) = true then 1 else 0)]
  rw [s8_c (g := fun m => if m < j then 1 else 0) (fun m hm => by
    show (if ltB κ (σ m) (σ j) = true then 1 else 0) = _
    rcases Nat.lt_trichotomy m j with q | q | q
    · rw [if_pos (h2 m j q hj), if_pos q]
    · rw [q, if_neg (ltB_i _), if_neg (by omega)]
    · rw [if_neg (fun z => ltB_i _ (ltB_t z (h2 j m q hm))), if_neg (by omega)])]
  unfold s8
  match j, hj with
  | 0, _ => rfl
  | 1, _ => rfl
  | 2, _ => rfl
  | 3, _ => rfl
  | 4, _ => rfl
  | 5, _ => rfl
  | 6, _ => rfl
  | 7, _ => rfl
  | j + 8, h => exact absurd h (by omega)
theorem sg_ex {σ : Nat → Nat} (h : pm8 σ) {k : Nat} (hk : k < 8) : ∃ j, j < 8 ∧ σ j = k := by
  have e := h (fun n => if n = k then 1 else 0)
  rw [s8_1 k 1 hk] at e
  by_cases x0 : σ 0 = k
  · exact ⟨0, by decide, x0⟩
  · by_cases x1 : σ 1 = k
    · exact ⟨1, by decide, x1⟩
    · by_cases x2 : σ 2 = k
      · exact ⟨2, by decide, x2⟩
      · by_cases x3 : σ 3 = k
        · exact ⟨3, by decide, x3⟩
        · by_cases x4 : σ 4 = k
          · exact ⟨4, by decide, x4⟩
          · by_cases x5 : σ 5 = k
            · exact ⟨5, by decide, x5⟩
            · by_cases x6 : σ 6 = k
              · exact ⟨6, by decide, x6⟩
              · by_cases x7 : σ 7 = k
                · exact ⟨7, by decide, x7⟩
                · exfalso
                  have e : (if σ 0 = k then 1 else 0) + (if σ 1 = k then 1 else 0) + (if σ 2 = k then 1 else 0) + (if σ 3 = k then 1 else 0) + (if σ 4 = k then 1 else 0) + (if σ 5 = k then 1 else 0) + (if σ 6 = k then 1 else 0) + (if σ 7 = k then 1 else 0) = 1 := e
                  rw [if_neg x0, if_neg x1, if_neg x2, if_neg x3, if_neg x4, if_neg x5, if_neg x6, if_neg x7] at e
                  omega
theorem sg_in {κ : Nat → Int} {σ : Nat → Nat} (h : insI κ 8 σ) {a b : Nat} (ha : a < 8) (hb : b < 8) (e : σ a = σ b) : a = b := by
  rcases Nat.lt_trichotomy a b with q | q | q
  · exact absurd (h.2.1 a b q hb) (by rw [e]; exact ltB_i _)
  · exact q
  · exact absurd (h.2.1 b a q ha) (by rw [e]; exact ltB_i _)
theorem sq_125 {σ : Nat → Nat} {κ : Nat → Int} (hs : insI κ 8 σ) {g1 g2 g3 g4 : qR} (hg : ∀ j : Nat, j < 8 → g4 (σ j) = Int32.ofNat j) (hu : ∀ j : Nat, j < 8 → g3 j = 0 ∨ g3 j = 1) : ∀ (fu : Nat) (k : Int32) (X : sM), ¬ k < 0 → k.toNatClampNeg ≤ 8 → ((8 : Int32).toInt - k.toInt).toNat < fu → (∀ j : Nat, j < 8 → σ j < k.toNatClampNeg → X.1 j = g1 (σ j) ∧ X.2.1 j = g2 (σ j) ∧ X.2.2.1 j = g3 (σ j)) → (∀ j : Nat, j < 8 → (lf_X7_sort_125 g1 g2 g3 g4 fu k X).2.1 j = g1 (σ j) ∧ (lf_X7_sort_125 g1 g2 g3 g4 fu k X).2.2.1 j = g2 (σ j) ∧ (lf_X7_sort_125 g1 g2 g3 g4 fu k X).2.2.2.1 j = g3 (σ j)) ∧ (lf_X7_sort_125 g1 g2 g3 g4 fu k X).2.2.2.2 = X.2.2.2
  | 0, _, _, _, _, h, _ => absurd h (Nat.not_lt_zero _)
  | fu + 1, k, X, hk, hk8, h, hX => by
    rw [lf_X7_sort_125]
    by_cases z : 8 ≤ k
    · rw [if_pos z]
      have := ge8 z
      exact ⟨fun j hj => hX j hj (by have := hs.2.2.2 j hj; omega), rfl⟩
    · rw [if_neg z]
      have n8 := vp_lt (qm_in8 hk z)
      have n1 := nx_n hk z
      obtain ⟨m, hm, em⟩ := sg_ex hs.1 n8
      have gk : (g4 k.toNatClampNeg).toNatClampNeg = m := by
        rw [← em, hg m hm]
        exact Int32.toNatClampNeg_ofNat_of_lt (by omega)
      rw [gk]
      have hX2 : ∀ j : Nat, j < 8 → σ j < (k + 1).toNatClampNeg → upd X.1 m (g1 k.toNatClampNeg) j = g1 (σ j) ∧ upd X.2.1 m (g2 k.toNatClampNeg) j = g2 (σ j) ∧ upd X.2.2.1 m (vp_nar .boolean (g3 k.toNatClampNeg)) j = g3 (σ j) := fun j hj hl => by
        rw [n1] at hl
        by_cases e : j = m
        · rw [e, upd_same, upd_same, upd_same, em, nar_u (hu _ n8)]
          exact ⟨rfl, rfl, rfl⟩
        · rw [upd_ne _ _ e, upd_ne _ _ e, upd_ne _ _ e]
          refine hX j hj ?_
          have : σ j ≠ k.toNatClampNeg := fun y => e (sg_in hs hj hm (y.trans em.symm))
          omega
      exact sq_125 hs hg hu fu (k + 1) (upd X.1 m (g1 k.toNatClampNeg), upd X.2.1 m (g2 k.toNatClampNeg), upd X.2.2.1 m (vp_nar .boolean (g3 k.toNatClampNeg)), X.2.2.2.1, X.2.2.2.2.1, X.2.2.2.2.2.1, X.2.2.2.2.2.2) (qm_pos hk z) (by omega) (qm_up z h) hX2
theorem rw_sort {S : sX} {T : sM} (hR : Rw S T) (hI : IM T) : (r_X5_sort S).1 = (r_X7_sort T).1 ∧ Rw (r_X5_sort S).2 (r_X7_sort T).2 := by
  obtain ⟨r1, r2, r3, r4⟩ := rem_v S
  have hI0 : IM (th 0 T) := im_th0 hI
  have i1 : insI (kap (th 0 T)) (1 : Int32).toNatClampNeg (fun j => j) := ⟨fun _ => rfl, fun a b ab b1 => absurd b1 (by have : (1 : Int32).toNatClampNeg = 1 := rfl; omega), fun _ _ => rfl, fun _ h => h⟩
  obtain ⟨Z, σ, e1, ⟨c1, c2, c3⟩, hs⟩ := sq_6 (T := th 0 T) (N := S.1) (R := (r_X5_remember S).2.2) hI0 hR.1.1 9 1 (r_X5_remember S) (fun j => j) ⟨fun j _ => by rw [r1], fun j hj => by rw [r2]; exact hR.1.2.1 j hj, rfl⟩ i1 (by decide) (by decide) (by decide)
  have g := sq_29 hI0 9 0 (fun _ => 0) (by decide) (by decide) (by decide) (fun _ _ => rfl) (fun j hj => absurd hj (by have : (0 : Int32).toNatClampNeg = 0 := rfl; omega))
  have hg : ∀ j : Nat, j < 8 → (lf_X7_sort_29 9 0 (fun _ => 0) (th 0 T)).2 (σ j) = Int32.ofNat j := fun j hj => by
    rw [g _ (hs.2.2.2 j hj), cn_v hs hj]
  obtain ⟨x1, x2⟩ := sq_125 hs (g1 := T.1) (g2 := T.2.1) (g3 := T.2.2.1) hg (fun j hj => vq_u (hI j hj)) 9 0 ((fun _ => 0), (fun _ => 0), (fun _ => 0), T.2.2.2.1, T.2.2.2.2.1, T.2.2.2.2.2.1, 0) (by decide) (by decide) (by decide) (fun j _ hl => absurd hl (by have : (0 : Int32).toNatClampNeg = 0 := rfl; omega))
  have y1 : ∀ j : Nat, j < 8 → (r_X7_sort T).2.1 j = T.1 (σ j) := fun j hj => (x1 j hj).1
  have y2 : ∀ j : Nat, j < 8 → (r_X7_sort T).2.2.1 j = T.2.1 (σ j) := fun j hj => (x1 j hj).2.1
  have y3 : ∀ j : Nat, j < 8 → (r_X7_sort T).2.2.2.1 j = T.2.2.1 (σ j) := fun j hj => (x1 j hj).2.2
  have e4 : (r_X7_sort T).2.2.2.2.1 = T.2.2.2.1 + 1 := congrArg (fun x => x.1 + 1) x2
  have e5 : (r_X7_sort T).2.2.2.2.2.1 = T.2.2.2.2.1 := congrArg (fun x => x.2.1) x2
  have e6 : (r_X7_sort T).2.2.2.2.2.2.1 = T.2.2.2.2.2.1 := congrArg (fun x => x.2.2.1) x2
  have h := rw_new (Z := Z) hR hI (im_sort hI) (fun j hj => by rw [c1 j hj, y1 j hj, y2 j hj, y3 j hj]; exact hR.1.1 _ (hs.2.2.2 j hj)) (fun j hj => by rw [c2 j hj, c1 j hj]) (fun j hj => by rw [c3]; exact r4 j hj) (by rw [c3]; exact r3) e4 e5 e6
  have e2 : r_X5_sort S = r_X5_countAct (r_X5_changedCells Z) Z := e1
  have e0 : (r_X7_sort T).1 = r_X7_others T.1 T.2.1 T.2.2.1 (r_X7_sort T).2 := by
    unfold r_X7_sort
    rfl
  rw [e2]
  exact ⟨h.1.trans e0.symm, h.2⟩
